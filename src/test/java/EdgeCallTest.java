/** The sentences of promises 1 to 38 that name a boundary: each held on both sides of it. */
public final class EdgeCallTest {
    private static final long ERROR = Long.MIN_VALUE;
    private static final int BLANKS = 0x20202020;
    private static final int LEAST = Integer.MIN_VALUE;
    private static final int MOST = Integer.MAX_VALUE;
    // Two persons, five shoes (a's left and right, b's right and left, the bank's left), a debt.
    private static final String LAND = "person a 8 20 3;person b 9 50 5;shoe left 7 0 boot a;shoe right 7 0 boot a;shoe right 9 0 boot b;"
        + "shoe left 2 0 boot b;shoe left 1 0 felt bank;debt a b 5 9;claim a 2;swap boot left 1 felt left 2;swap felt left 1 boot left 1;";

    public static void main(String[] args) {
        Due.each(EdgeCallTest.class);
    }

    private static LeftShoes land() {
        return Due.told(LAND);
    }

    // a's left shoe is in the grave, on day 1.
    private static LeftShoes grave() {
        LeftShoes x = Due.told("person a 8 10 3;person b 9 50 5;shoe left 7 49 boot a;shoe right 7 0 boot a;shoe right 7 0 boot b;shoe left 7 0 boot b;law worth 5;law wear 1;law pair 7;");
        x.on(0);
        x.days(1);
        return x;
    }

    // ---- promises 1 to 5

    private static void p01NewObject() {
        Due.by("A TEXT without LINES; an empty TAPE.");
        LeftShoes x = new LeftShoes();
        for (int what = 0; what <= 13; what++) Due.is("count(" + what + ")", x.count(what), 0);
        Due.is("no byte on the tape", x.text(1), -2);
        Due.is("fault", x.fault(0), 0);
        Due.is("place", x.fault(1), -1);
        Due.is("twenty bytes then", x.feed(BLANKS, BLANKS, BLANKS, BLANKS, BLANKS), 20);
        Due.is("shoe 0", Due.thrown(x, 0, 0), 1);
        Due.is("who", x.who(), 0);
        Due.is("ring", x.ring(), -2);
        Due.is("pairs", x.pairs(), 0);
        Due.is("days", x.days(50), 50);
        Due.is("keep", x.keep(), 50);
        Due.is("back", x.back(), 50);
    }

    private static void p02BytesInOrder() {
        Due.by("Twenty bytes come behind the TAPE, four of each number, the highest first: how many it has;");
        for (int i = 0; i < 20; i++) {
            int[] v = new int[5];
            for (int k = 0; k < 20; k++) v[k / 4] = v[k / 4] << 8 | (k == i ? 0xff : 32);
            LeftShoes x = new LeftShoes();
            x.feed(v[0], v[1], v[2], v[3], v[4]);
            Due.is("ahead of byte " + i, x.text(i), 0);
            x.feed(v[0], v[1], v[2], v[3], v[4]);
            Due.is("with byte " + i, x.text(i + 1), -1);
            Due.is("its place", x.fault(1), i);
            for (int feeds = 1; feeds < 35; feeds++) x.feed(BLANKS, BLANKS, BLANKS, BLANKS, BLANKS);
            Due.is("the last twenty", x.feed(v[0], v[1], v[2], v[3], v[4]), 700);
            Due.is("in the last twenty", x.text(700), -1);
            Due.is("its place there", x.fault(1), 680 + i);
        }
    }

    private static void p02Full() {
        Due.by("NONE, and none come, if it would have more than 700.");
        LeftShoes x = new LeftShoes();
        for (int i = 1; i <= 35; i++) Due.is("feed " + i, x.feed(BLANKS, BLANKS, BLANKS, BLANKS, BLANKS), 20 * i);
        for (int i = 0; i < 3; i++) Due.is("one more", x.feed(-1, -1, -1, -1, -1), -1);
        Due.is("not 701", x.text(701), -2);
        Due.is("not 720", x.text(720), -2);
        Due.is("700, and no other byte came", x.text(700), 0);
        Due.is("empty then", x.feed(-1, -1, -1, -1, -1), 20);
    }

    private static void p03FirstBytes() {
        Due.by("The TAPE's first n bytes (it is empty then) are the TEXT");
        LeftShoes x = new LeftShoes();
        Due.feed(x, "seed 1;seed 2;");
        Due.is("seven of them", x.text(7), 1);
        Due.is("empty then", x.text(1), -2);
        Due.feed(x, "seed 1;!");
        Due.is("eight of them", x.text(8), -1);
        Due.is("empty with a fault, too", x.text(1), -2);
        Due.feed(x, "!");
        Due.is("none of them", x.text(0), 0);
        Due.is("empty then, too", x.feed(0, 0, 0, 0, 0), 20);
        Due.is("all of them", x.text(20), -1);
    }

    private static void p03WhatATextBegins() {
        Due.by("(DAY 0, all barefoot, no TRACKS, all KNOWN, no IMAGE, nothing to undo then): how many LINES;");
        LeftShoes x = land();
        x.days(10);
        Due.is("refused", x.debt(0, 4), 2);
        x.on(0);
        x.on(1);
        x.track(0, 5);
        x.track(0, 6);
        x.known(0);
        x.keep();
        x.off(0);
        Due.is("lines", Due.tell(x, LAND), 11);
        Due.same("as new", Due.standing(x), Due.standing(land()));
        Due.is("day", x.count(5), 0);
        Due.is("left", x.person(0, 0), -1);
        Due.is("right", x.person(0, 1), -1);
        Due.is("tracks", x.count(11), 0);
        Due.is("image", x.back(), -1);
        Due.is("undo", x.undo(), -1);
        x.track(0, 9);
        Due.is("all known", x.who(), 0b10);
        Due.is("a text of no lines", x.text(0), 0);
        for (int what = 0; what <= 13; what++) Due.is("count(" + what + ") of no lines", x.count(what), 0);
    }

    private static void p03NothingOfFormerTexts() {
        Due.by("are the TEXT (DAY 0");
        String full = "person a 8 20 3;person b 9 50 5;person c 9 50 5;person d 9 50 5;person e 9 50 5;claim a 9;claim e 9;swap boot left 1 boot right 2;swap felt right 1 felt left 99;"
            + "debt a b 1 0;debt b a 1 0;law worth not 5" + "+1".repeat(29) + ";law wear 7;law pair 8;seed 5;shoe left 1 1 boot a;shoe right 1 1 boot a;";
        String few = "person a 8 20 3;shoe left 1 1 boot a;shoe right 1 1 boot a;swap boot right 1 boot left 1;";
        LeftShoes x = new LeftShoes();
        for (int round = 0; round < 3; round++) {
            for (int i = 0; i < 3; i++) Due.is("a full text", Due.tell(x, full), 17);
            x.days(1);
            Due.is("refused", x.count(10), 2);
            Due.is("knots", x.count(4), 62);
            Due.is("a full text with a fault behind it", Due.tell(x, full + "!"), -1);
            for (int i = 0; i < 2; i++) {
                Due.is("few lines", Due.tell(x, few), 4);
                int[] due = {1, 2, 0, 1, 0, 0, 0, 0, 3, 0, 0, 0, 0, 0};
                for (int what = 0; what <= 13; what++) Due.is("count(" + what + ")", x.count(what), due[what]);
                Due.is("no claim", x.run(1), -1);
                Due.is("nobody to save", x.save(0), 0);
                Due.is("no ring", x.ring(), -2);
                for (int what = 0; what <= 2; what++) Due.is("no law " + what, x.law(what, 0, 1), ERROR);
                Due.is("no debt", x.debt(0, 0), -1);
                Due.is("nobody called b", x.named(2 << 25), -1);
            }
            Due.is("64 knots once more", Due.tell(x, "law worth not 5" + "+1".repeat(31) + ";shoe left 1 1 boot bank;"), 2);
            Due.is("their value", x.law(0, 0, 0), 0);
            Due.is("a seed once more", Due.tell(x, "seed 1;"), 1);
            Due.is("a debt once more", Due.tell(x, "person a 1 1 1;person b 1 1 1;debt a b 1 0;debt b a 1 0;"), 4);
            Due.is("to come", x.debt(0, 4) + x.debt(1, 4), 0);
        }
    }

    private static void p03FaultLeavesAll() {
        Due.by("NONE with a FAULT, all stays;");
        LeftShoes x = land();
        x.on(0);
        x.keep();
        x.days(2);
        x.track(0, 8);
        x.track(1, 8);
        x.known(1);
        x.give(2, 0);
        String stood = Due.standing(x);
        for (String text : new String[] {"person", "person a 1 1 1;shoe left 1 1 boot a;law worth 1;!", ";", LAND + "seed 1;seed 2;", "claim a 1;"}) {
            Due.is("text", Due.tell(x, text), -1);
            Due.same("stays", Due.standing(x), stood);
        }
        Due.is("worth stays", x.shoe(0, 5), 14);
        Due.is("claims stay", x.save(0), 3);
        Due.is("rates stay", x.ring(), 2);
        Due.is("names stay", x.named(2 << 25), 1);
        Due.is("undo stays", x.undo(), 0);
        Due.is("the image stays", x.back(), 0);
    }

    private static void p03NotSoMany() {
        Due.by("-2, and the TAPE stays: there are not so many, n is below 0.");
        LeftShoes x = land();
        String stood = Due.standing(x);
        Due.feed(x, "seed 1;");
        for (int n : new int[] {-1, -2, LEAST, 21, 22, 700, MOST}) Due.is("text(" + n + ")", x.text(n), -2);
        Due.same("stays", Due.standing(x), stood);
        Due.is("fault", x.fault(0), 0);
        Due.is("the tape stays", x.feed(BLANKS, BLANKS, BLANKS, BLANKS, BLANKS), 40);
        Due.is("41", x.text(41), -2);
        Due.is("40", x.text(40), 1);
        Due.is("0 of none", x.text(0), 0);
        Due.is("1 of none", x.text(1), -2);
    }

    private static void p04FaultOfTheLatest() {
        Due.by("Of the latest text() that was not -2, what 0: its FAULT (0), 1: its place (NONE without).");
        LeftShoes x = new LeftShoes();
        Due.is("of none", x.fault(0), 0);
        Due.is("place of none", x.fault(1), -1);
        Due.tell(x, "seed 1;seed");
        Due.is("told already", x.fault(0), 3);
        Due.is("place", x.fault(1), 7);
        x.text(-1);
        x.text(1);
        Due.is("not of -2", x.fault(0), 3);
        Due.is("place not of -2", x.fault(1), 7);
        Due.tell(x, "!");
        Due.is("at 0", x.fault(1), 0);
        x.text(0);
        Due.is("without", x.fault(0), 0);
        Due.is("place without", x.fault(1), -1);
    }

    private static void p04AnotherWhat() {
        Due.by("NONE for another what. ## Promise 5: named");
        LeftShoes x = new LeftShoes();
        Due.tell(x, "seed 1;seed");
        for (int what : new int[] {-1, 2, 3, LEAST, MOST}) Due.is("fault(" + what + ")", x.fault(what), -1);
        Due.is("fault(0)", x.fault(0), 3);
        Due.is("fault(1)", x.fault(1), 7);
    }

    private static int letters(String name) {
        int packed = 0;
        for (int i = 0; i < 6; i++) packed = packed << 5 | (i < name.length() ? name.charAt(i) - 'a' + 1 : 0);
        return packed;
    }

    private static void p05Letters() {
        Due.by("The number of a PERSON by the letters, 5 bits each (a is 1; the first one highest of six, 0 behind the last one); NONE: there is none such.");
        String[] names = {"a", "z", "az", "zzzzzz", "abcdef"};
        StringBuilder b = new StringBuilder();
        for (String name : names) b.append("person ").append(name).append(" 1 1 1;");
        LeftShoes x = Due.told(b.toString());
        for (int i = 0; i < names.length; i++) {
            Due.is(names[i], x.named(letters(names[i])), i);
            Due.is("below " + names[i], x.named(letters(names[i]) - 1), -1);
            Due.is("above " + names[i], x.named(letters(names[i]) + 1), -1);
            Due.is("bit 30 more than " + names[i], x.named(letters(names[i]) | 1 << 30), -1);
            Due.is("bit 31 more than " + names[i], x.named(letters(names[i]) | 1 << 31), -1);
        }
        Due.is("a lowest", x.named(1), -1);
        Due.is("a second", x.named(1 << 20), -1);
        Due.is("a and z with a gap", x.named(1 << 25 | 26 << 15), -1);
        for (int none : new int[] {0, -1, LEAST, MOST}) Due.is("named(" + none + ")", x.named(none), -1);
        Due.is("without persons", new LeftShoes().named(0), -1);
        Due.is("nobody is called a any more", Due.tell(x, "person b 1 1 1;"), 1);
        Due.is("a", x.named(letters("a")), -1);
        Due.is("b", x.named(letters("b")), 0);
    }

    // ---- promises 6 to 10

    private static void p06NoSuchShoe() {
        Due.by("IndexOutOfBoundsException: no such SHOE.");
        LeftShoes x = land();
        Due.is("the first", Due.thrown(x, 0, 0), 0);
        Due.is("the last", Due.thrown(x, 4, 0), 0);
        for (int shoe : new int[] {-1, 5, 16, LEAST, MOST}) {
            for (int what = 0; what <= 6; what++) Due.is("shoe(" + shoe + ", " + what + ")", Due.thrown(x, shoe, what), 1);
            Due.is("no such shoe and no such what", Due.thrown(x, shoe, 7), 1);
        }
        x = Due.told("shoe left 1 1 boot bank;".repeat(16));
        Due.is("the sixteenth", Due.thrown(x, 15, 6), 0);
        Due.is("the seventeenth", Due.thrown(x, 16, 6), 1);
        Due.is("in the grave", Due.thrown(grave(), 0, 6), 0);
    }

    private static void p06NoSuchWhat() {
        Due.by("NoSuchElementException: no such what.");
        LeftShoes x = land();
        for (int what = 0; what <= 6; what++) Due.is("shoe(0, " + what + ")", Due.thrown(x, 0, what), 0);
        for (int what : new int[] {-1, 7, 8, LEAST, MOST}) for (int shoe : new int[] {0, 4}) Due.is("shoe(" + shoe + ", " + what + ")", Due.thrown(x, shoe, what), 2);
    }

    private static void p06Whats() {
        Due.by("Of a SHOE now, what 0 SIDE (0 left, 1 right), 1 SIZE, 2 USED, 3 KIND, 4 whose (-1: the BANK's, -2: in the GRAVE), 5 WORTH, 6 whether worn (1, 0).");
        LeftShoes x = Due.told("person a 1 20 0;person b 1 0 0;shoe right 20 48 felt b;shoe left 1 48 sandal bank;shoe left 12 48 boot a;");
        x.on(2);
        int[][] due = {{1, 20, 48, 2, 1, 11, 0}, {0, 1, 48, 1, -1, 0, 0}, {0, 12, 48, 0, 0, 15, 1}};
        for (int shoe = 0; shoe < 3; shoe++) for (int what = 0; what <= 6; what++) Due.is("shoe(" + shoe + ", " + what + ")", x.shoe(shoe, what), due[shoe][what]);
        x.days(1);
        int[] then = {0, 12, 50, 0, -2, 0, 0};
        for (int what = 0; what <= 6; what++) Due.is("in the grave " + what, x.shoe(2, what), then[what]);
    }

    private static void p07Persons() {
        Due.by("Of a PERSON now, what 0 the left SHOE worn, 1 the right one (NONE: none), 2 all WORTH, 3 how many SHOES, 4 which ones (bits). NONE: no such ones.");
        LeftShoes x = land();
        x.on(0);
        int[][] due = {{0, -1, 21, 2, 0b00011}, {-1, -1, 13, 2, 0b01100}};
        for (int person = 0; person < 2; person++) for (int what = 0; what <= 4; what++) Due.is("person(" + person + ", " + what + ")", x.person(person, what), due[person][what]);
        for (int person : new int[] {-1, -2, 2, 5, LEAST, MOST}) for (int what = 0; what <= 4; what++) Due.is("person(" + person + ", " + what + ")", x.person(person, what), -1);
        for (int what : new int[] {-1, 5, LEAST, MOST}) Due.is("person(0, " + what + ")", x.person(0, what), -1);
        x.give(0, -1);
        x.give(1, -1);
        int[] none = {-1, -1, 0, 0, 0};
        for (int what = 0; what <= 4; what++) Due.is("without shoes " + what, x.person(0, what), none[what]);
        x = Due.told("person a 1 1 1;" + "shoe left 1 0 boot a;".repeat(16) + "law worth 999;");
        Due.is("sixteen", x.person(0, 3), 16);
        Due.is("all bits", x.person(0, 4), 65535);
        Due.is("all worth", x.person(0, 2), 16 * 999);
        x = grave();
        Due.is("without the grave", x.person(0, 3), 1);
        Due.is("which without the grave", x.person(0, 4), 0b0010);
        Due.is("left without the grave", x.person(0, 0), -1);
    }

    private static void p08Debts() {
        Due.by("Of a DEBT, what 0 who owes, 1 to whom, 2 how much, 3 the DAY, 4: 0 to come, 1 PAID, 2 REFUSED. NONE: no such ones.");
        LeftShoes x = Due.told("person a 1 0 0;person b 1 0 0;shoe left 5 0 boot b;law worth size;debt b a 5 0;debt b a 999 99;debt a b 6 0;");
        int[][] due = {{1, 0, 5, 0, 0}, {1, 0, 999, 99, 0}, {0, 1, 6, 0, 0}};
        for (int debt = 0; debt < 3; debt++) for (int what = 0; what <= 4; what++) Due.is("debt(" + debt + ", " + what + ")", x.debt(debt, what), due[debt][what]);
        for (int debt : new int[] {-1, 3, 8, LEAST, MOST}) for (int what = 0; what <= 4; what++) Due.is("debt(" + debt + ", " + what + ")", x.debt(debt, what), -1);
        for (int what : new int[] {-1, 5, LEAST, MOST}) Due.is("debt(0, " + what + ")", x.debt(0, what), -1);
        x.days(1);
        Due.is("paid", x.debt(0, 4), 1);
        Due.is("to come", x.debt(1, 4), 0);
        Due.is("refused", x.debt(2, 4), 2);
        x = Due.told("person a 1 0 0;person b 1 0 0;" + "debt a b 1 1;".repeat(8));
        Due.is("the eighth", x.debt(7, 2), 1);
        Due.is("no ninth", x.debt(8, 2), -1);
    }

    private static void p09Pairs() {
        Due.by("PAIR of a left and a right SHOE; NONE: no such ones, one in the GRAVE.");
        LeftShoes x = land();
        Due.is("left and right", x.pair(0, 1), 10);
        Due.is("of two persons", x.pair(3, 1), 0);
        Due.is("right and left", x.pair(1, 0), -1);
        Due.is("left and left", x.pair(0, 3), -1);
        Due.is("right and right", x.pair(1, 2), -1);
        Due.is("one alone", x.pair(0, 0), -1);
        Due.is("the bank's", x.pair(4, 1), 0);
        for (int none : new int[] {-1, 5, 16, LEAST, MOST}) {
            Due.is("no left " + none, x.pair(none, 1), -1);
            Due.is("no right " + none, x.pair(0, none), -1);
            Due.is("none " + none, x.pair(none, none), -1);
        }
        x = grave();
        Due.is("left one in the grave", x.pair(0, 1), -1);
        Due.is("another left one", x.pair(3, 1), 7);
        x.on(1);
        x.days(49);
        Due.is("ahead of the grave", x.pair(3, 1), 7);
        x.days(1);
        Due.is("right one in the grave", x.pair(3, 1), -1);
        Due.is("another right one", x.pair(3, 2), 7);
    }

    private static void p10Laws() {
        Due.by("Long.MIN_VALUE: an ERROR, no such law, no such ones, one in the GRAVE (other isn't looked at but for 2).");
        LeftShoes x = grave();
        Due.is("worth", x.law(0, 1, 0), 5);
        Due.is("wear", x.law(1, 1, 0), 1);
        Due.is("pair", x.law(2, 3, 1), 7);
        for (int other : new int[] {-1, 0, 4, LEAST, MOST}) {
            Due.is("worth whatever other is", x.law(0, 1, other), 5);
            Due.is("wear whatever other is", x.law(1, 1, other), 1);
            Due.is("pair with " + other, x.law(2, 3, other), ERROR);
        }
        for (int what : new int[] {-1, 3, LEAST, MOST}) Due.is("law " + what, x.law(what, 3, 1), ERROR);
        for (int none : new int[] {-1, 4, 16, LEAST, MOST}) for (int what = 0; what <= 2; what++) Due.is("law " + what + " of " + none, x.law(what, none, 1), ERROR);
        for (int what = 0; what <= 2; what++) Due.is("law " + what + " in the grave", x.law(what, 0, 1), ERROR);
        Due.is("pair of two left ones", x.law(2, 3, 3), ERROR);
        Due.is("pair of two right ones", x.law(2, 1, 2), ERROR);
        Due.is("pair turned round", x.law(2, 1, 3), ERROR);
        x = Due.told("shoe left 1 0 boot bank;shoe right 1 0 boot bank;");
        for (int what = 0; what <= 2; what++) Due.is("no law " + what, x.law(what, 0, 1), ERROR);
        x = Due.told("shoe left 1 0 boot bank;shoe right 1 0 boot bank;law worth 1/used;law wear 1/used;law pair 1/used;");
        for (int what = 0; what <= 2; what++) Due.is("an error " + what, x.law(what, 0, 1), ERROR);
        x = Due.told("shoe left 1 0 boot bank;shoe right 1 0 boot bank;law worth 5000;law wear 0-5000;law pair 5000;");
        Due.is("not cut to 999", x.law(0, 0, 0), 5000);
        Due.is("not cut to 0", x.law(1, 0, 0), -5000);
        Due.is("pair not cut", x.law(2, 0, 1), 5000);
    }

    // ---- promises 11 to 17

    private static void p11Prices() {
        Due.by("A PERSON pays a price (1 .. 9999) to another one: the SHOES that go over (bits);");
        String land = "person a 1 0 0;person b 1 0 0;" + "shoe left 1 0 boot a;".repeat(16);
        LeftShoes x = Due.told(land + "law worth 909;");
        Due.is("9999", x.pay(0, 1, 9999), 0b11111111111);
        Due.is("goes over", x.person(1, 4), 0b11111111111);
        x = Due.told(land + "law worth 625;");
        Due.is("10000, though it could be made", x.pay(0, 1, 10000), -1);
        Due.is("9375", x.pay(0, 1, 9375), 0b111111111111111);
        x = Due.told(land + "law worth day;");
        Due.is("0", x.pay(0, 1, 0), -1);
        Due.is("1 of shoes that are worth 0", x.pay(0, 1, 1), -2);
        x.days(1);
        Due.is("1", x.pay(0, 1, 1), 1);
        for (int price : new int[] {-1, LEAST, MOST}) Due.is("price " + price, x.pay(0, 1, price), -1);
    }

    private static void p11NoChange() {
        Due.by("-2: no CHANGE; NONE: no such ones, alike.");
        LeftShoes x = land();
        String stood = Due.standing(x);
        Due.is("no change", x.pay(0, 1, 13), -2);
        for (int none : new int[] {-1, -2, 2, 5, LEAST, MOST}) {
            Due.is("from " + none, x.pay(none, 0, 14), -1);
            Due.is("to " + none, x.pay(0, none, 14), -1);
        }
        Due.is("alike", x.pay(0, 0, 14), -1);
        Due.is("alike without change", x.pay(0, 0, 13), -1);
        Due.is("alike, the other one", x.pay(1, 1, 9), -1);
        Due.same("nothing went over", Due.standing(x), stood);
        Due.is("change", x.pay(0, 1, 14), 0b00001);
        Due.is("it went over", x.shoe(0, 4), 1);
        Due.is("can be undone", x.count(13), 1);
    }

    private static void p12Give() {
        Due.by("A SHOE that isn't in the GRAVE goes to a PERSON, or the BANK (-1): true; false: no such ones, it is there.");
        LeftShoes x = land();
        x.on(0);
        String stood = Due.standing(x);
        for (int none : new int[] {-1, 5, 16, LEAST, MOST}) Due.is("give(" + none + ", 1)", x.give(none, 1), false);
        for (int none : new int[] {-2, -3, 2, 5, LEAST, MOST}) Due.is("give(0, " + none + ")", x.give(0, none), false);
        Due.is("a's to a", x.give(0, 0), false);
        Due.is("the bank's to the bank", x.give(4, -1), false);
        Due.same("nothing went", Due.standing(x), stood);
        Due.is("to b", x.give(0, 1), true);
        Due.is("taken off", x.person(0, 0), -1);
        Due.is("to the bank", x.give(0, -1), true);
        Due.is("by the bank to the last person", x.give(4, 1), true);
        Due.is("to the first person", x.give(4, 0), true);
        Due.is("can be undone", x.count(13), 5);
        x = grave();
        for (int to = -2; to <= 2; to++) Due.is("out of the grave to " + to, x.give(0, to), false);
        Due.is("what isn't in the grave", x.give(1, 1), true);
    }

    private static void p13On() {
        Due.by("An own SHOE is put on (in place of another one on that foot): true; false: no such one, the BANK's, in the GRAVE, worn.");
        LeftShoes x = land();
        String stood = Due.standing(x);
        for (int none : new int[] {-1, 5, 16, LEAST, MOST}) Due.is("on(" + none + ")", x.on(none), false);
        Due.is("the bank's", x.on(4), false);
        Due.same("nothing is on", Due.standing(x), stood);
        Due.is("own", x.on(0), true);
        Due.is("worn", x.on(0), false);
        Due.is("once to undo", x.count(13), 1);
        x.give(4, 0);
        Due.is("the bank's no more", x.on(4), true);
        Due.is("in place of another one", x.person(0, 0), 4);
        Due.is("that is off", x.shoe(0, 6), 0);
        Due.is("and can be put on", x.on(0), true);
        Due.is("the other foot", x.on(1), true);
        Due.is("both", x.person(0, 0) * 10 + x.person(0, 1), 1);
        Due.is("in the grave", grave().on(0), false);
        Due.is("not in the grave", grave().on(1), true);
    }

    private static void p14Off() {
        Due.by("A SHOE is put off: true; false: no such one, not worn.");
        LeftShoes x = land();
        x.on(0);
        x.on(1);
        String stood = Due.standing(x);
        for (int none : new int[] {-1, 5, 16, LEAST, MOST}) Due.is("off(" + none + ")", x.off(none), false);
        for (int shoe = 2; shoe <= 4; shoe++) Due.is("not worn " + shoe, x.off(shoe), false);
        Due.same("nothing is off", Due.standing(x), stood);
        Due.is("worn", x.off(0), true);
        Due.is("off", x.person(0, 0), -1);
        Due.is("the other one is on", x.person(0, 1), 1);
        Due.is("off already", x.off(0), false);
        Due.is("the right one", x.off(1), true);
        Due.is("it is a's still", x.shoe(1, 4), 0);
        Due.is("in the grave", grave().off(0), false);
    }

    private static void p15HowManyDays() {
        Due.by("So many DAYS (0 .. 50) go by: which one it is; NONE, and none does: no such number");
        LeftShoes x = land();
        x.on(0);
        Due.is("none", x.days(0), 0);
        Due.is("nothing is forgotten", x.count(13), 1);
        String stood = Due.standing(x);
        for (int n : new int[] {-1, 51, 52, LEAST, MOST}) Due.is("days(" + n + ")", x.days(n), -1);
        Due.same("none does", Due.standing(x), stood);
        Due.is("one", x.days(1), 1);
        Due.is("fifty", x.days(50), 51);
        Due.is("which", x.count(5), 51);
    }

    private static void p15Behind999() {
        Due.by("no such number, behind 999.");
        LeftShoes x = land();
        Due.pass(x, 949);
        Due.is("949", x.count(5), 949);
        LeftShoes y = land();
        Due.pass(y, 950);
        y.give(4, 0);
        String stood = Due.standing(y);
        Due.is("50 from 950 on", y.days(50), -1);
        Due.same("none does", Due.standing(y), stood);
        Due.is("50 from 949 on", x.days(50), 999);
        Due.is("1 from 999 on", x.days(1), -1);
        Due.is("50 from 999 on", x.days(50), -1);
        Due.is("0 from 999 on", x.days(0), 999);
        Due.is("49 from 950 on", y.days(49), 999);
    }

    private static void p16FirstRefused() {
        Due.by("The first DEBT (as told) that was REFUSED; NONE: none.");
        LeftShoes x = Due.told("person a 1 0 0;person b 1 0 0;shoe left 5 0 boot a;law worth size;debt a b 5 0;debt a b 9 3;debt a b 9 2;debt a b 9 1;");
        Due.is("none", x.refused(), -1);
        x.days(1);
        Due.is("one is paid", x.refused(), -1);
        for (int debt = 3; debt >= 1; debt--) {
            x.days(1);
            Due.is("the first as told, not by days", x.refused(), debt);
        }
        x.days(50);
        Due.is("it stays", x.refused(), 1);
        Due.is("without debts", new LeftShoes().refused(), -1);
        x = Due.told("person a 1 0 0;person b 1 0 0;" + "debt a b 1 9;".repeat(7) + "debt a b 1 0;");
        x.days(1);
        Due.is("the eighth", x.refused(), 7);
        x.days(9);
        Due.is("the first", x.refused(), 0);
        x = Due.told("person a 1 0 0;person b 1 0 0;" + "debt a b 1 9;".repeat(8));
        x.days(9);
        Due.is("none of eight", x.refused(), -1);
        x.days(1);
        Due.is("all of eight", x.refused(), 0);
    }

    private static void p17Change() {
        Due.by("CHANGE (bits; a price 1 .. 9999); -2: there is none; NONE: no such ones.");
        String land = "person a 1 0 0;person b 1 0 0;" + "shoe left 1 0 boot a;".repeat(16);
        LeftShoes x = Due.told(land + "law worth 909;");
        Due.is("9999", x.change(0, 9999), 0b11111111111);
        Due.is("9998", x.change(0, 9998), -2);
        x = Due.told(land + "law worth 625;");
        Due.is("10000", x.change(0, 10000), -1);
        x = Due.told(land + "law worth 1;");
        Due.is("1", x.change(0, 1), 1);
        Due.is("16", x.change(0, 16), 65535);
        Due.is("17", x.change(0, 17), -2);
        Due.is("0", x.change(0, 0), -1);
        Due.is("1 of none", x.change(1, 1), -2);
        for (int price : new int[] {-1, LEAST, MOST}) Due.is("price " + price, x.change(0, price), -1);
        for (int none : new int[] {-1, -2, 2, LEAST, MOST}) Due.is("person " + none, x.change(none, 1), -1);
        Due.is("nothing goes over", x.person(0, 3), 16);
        Due.is("nothing to undo", x.count(13), 0);
    }

    // ---- promises 18 to 25

    private static void p18Mint() {
        Due.by("MINT (n 1 .. 40, k 1 .. 5): SIZES (bits); -2: by none; NONE: no such ones.");
        LeftShoes x = Due.told("law worth size;");
        Due.is("1 by 1", x.mint(1, 1), 1);
        Due.is("1 by 5", x.mint(1, 5), 1);
        Due.is("40 by 1", x.mint(40, 1), -2);
        Due.is("40 by 5", x.mint(40, 5) > 0, true);
        for (int n : new int[] {0, -1, 41, 42, LEAST, MOST}) for (int k : new int[] {1, 5}) Due.is("mint(" + n + ", " + k + ")", x.mint(n, k), -1);
        for (int k : new int[] {0, -1, 6, 7, LEAST, MOST}) for (int n : new int[] {1, 40}) Due.is("mint(" + n + ", " + k + ")", x.mint(n, k), -1);
        // Each price up to 31 by its bits, one boot each; 32 is two of 16.
        x = Due.told("law worth (size=1)+(size=2)*2+(size=3)*4+(size=4)*8+(size=5)*16;");
        Due.is("31 by 5: the five", x.mint(31, 5), 0b11111);
        Due.is("32 by 5: two of 16", x.mint(32, 5), 0b11111);
        Due.is("without a law only even ones", new LeftShoes().mint(1, 1), -2);
        x = Due.told("law worth 41-size*(size<2);");
        Due.is("40 is worth 40, but no 1", x.mint(1, 5), -2);
    }

    private static void p19Pairs() {
        Due.by("PAIRS: the sum.");
        Due.is("of none", new LeftShoes().pairs(), 0);
        Due.is("of one", Due.told("shoe left 1 0 boot bank;").pairs(), 0);
        Due.is("of two", Due.told("shoe left 1 0 boot bank;shoe right 1 0 boot bank;").pairs(), 10);
        Due.is("of two left ones", Due.told("shoe left 1 0 boot bank;shoe left 1 0 boot bank;").pairs(), 0);
        LeftShoes x = grave();
        Due.is("the grave's is none", x.pairs(), 7);
    }

    private static void p20Partner() {
        Due.by("The partner of a SHOE in these (also of a right one); -2: none; NONE: no such one, in the GRAVE.");
        LeftShoes x = land();
        Due.is("of a left one", x.partner(0), 1);
        Due.is("of a right one", x.partner(1), 0);
        Due.is("of the next left one", x.partner(3), 2);
        Due.is("none", x.partner(4), -2);
        for (int none : new int[] {-1, -2, 5, 16, LEAST, MOST}) Due.is("partner(" + none + ")", x.partner(none), -1);
        x = grave();
        Due.is("in the grave", x.partner(0), -1);
        Due.is("the least partner", x.partner(3), 1);
        Due.is("its partner", x.partner(1), 3);
        Due.is("none for this one", x.partner(2), -2);
    }

    private static void p21Walk() {
        Due.by("WALK, what 0: the sum, 1: DAYS walked (bits, the first one lowest). NONE: no such ones.");
        LeftShoes x = land();
        x.on(0);
        for (int n = 1; n <= 8; n++) Due.is("walk of " + n, x.walk(0, n, 1), (1 << n) - 1);
        Due.is("sum of 2", x.walk(0, 2, 0), 0);
        Due.is("sum of 3", x.walk(0, 3, 0), 1);
        Due.is("sum of 8", x.walk(0, 8, 0), 3);
        for (int n : new int[] {0, -1, 9, 10, LEAST, MOST}) for (int what = 0; what <= 1; what++) Due.is("walk(0, " + n + ", " + what + ")", x.walk(0, n, what), -1);
        for (int what : new int[] {-1, 2, LEAST, MOST}) Due.is("walk(0, 1, " + what + ")", x.walk(0, 1, what), -1);
        for (int none : new int[] {-1, 2, 5, LEAST, MOST}) for (int what = 0; what <= 1; what++) Due.is("walk(" + none + ", 1, " + what + ")", x.walk(none, 1, what), -1);
        Due.is("the last person", x.walk(1, 8, 1), 255);
    }

    private static void p21WalkAtTheEnd() {
        Due.by("WALK of a PERSON for n DAYS 1 .. 8 from now");
        LeftShoes x = Due.told("person a 8 20 3;shoe left 7 0 boot a;law worth 2000-day-used;law wear 1;");
        x.on(0);
        Due.is("cut to 999 on both sides", x.walk(0, 8, 0), 0);
        x.off(0);
        Due.pass(x, 998);
        x.on(0);
        Due.is("behind 999 too: 993 less used", x.walk(0, 8, 0), 8);
        Due.is("no day went by", x.count(5), 998);
    }

    private static void p22Rests() {
        Due.by("How many RESTS HALVES have; NONE: no such ones, not of two PERSONS.");
        LeftShoes x = land();
        Due.is("of two persons", x.rests(3, 1), 100);
        Due.is("of one person", x.rests(0, 1), -1);
        Due.is("of the other one person", x.rests(3, 2), -1);
        Due.is("the bank's", x.rests(4, 1), -1);
        Due.is("right and left", x.rests(1, 3), -1);
        Due.is("left and left", x.rests(0, 3), -1);
        Due.is("right and right", x.rests(1, 2), -1);
        for (int none : new int[] {-1, 5, 16, LEAST, MOST}) {
            Due.is("no left " + none, x.rests(none, 1), -1);
            Due.is("no right " + none, x.rests(3, none), -1);
        }
        Due.is("in the grave", grave().rests(0, 2), -1);
        Due.is("not in the grave", grave().rests(3, 1), halvesOf(7));
    }

    // Those in sum, and those where both ask at least the pair.
    private static int halvesOf(int pair) {
        return pair + 1 + (10 - pair) * (10 - pair);
    }

    private static void p23Rest() {
        Due.by("The k-th: ten times what the left one's asks and the right one's; -2: there are no so many; NONE likewise.");
        LeftShoes x = Due.told("person a 1 1 1;person b 1 1 1;shoe left 8 0 boot a;shoe right 8 0 boot b;shoe right 8 0 boot a;shoe left 8 0 boot bank;law pair 16;");
        Due.is("rests", x.rests(0, 1), 3);
        Due.is("the first", x.rest(0, 1, 0), 79);
        Due.is("the second", x.rest(0, 1, 1), 88);
        Due.is("the last", x.rest(0, 1, 2), 97);
        for (int k : new int[] {3, 4, 100, MOST}) Due.is("rest " + k, x.rest(0, 1, k), -2);
        for (int k : new int[] {-1, LEAST}) Due.is("rest " + k, x.rest(0, 1, k), -1);
        for (int k : new int[] {0, 3}) {
            Due.is("of one person", x.rest(0, 2, k), -1);
            Due.is("the bank's", x.rest(3, 1, k), -1);
            Due.is("right and left", x.rest(1, 0, k), -1);
            for (int none : new int[] {-1, 4, LEAST, MOST}) {
                Due.is("no left " + none, x.rest(none, 1, k), -1);
                Due.is("no right " + none, x.rest(0, none, k), -1);
            }
        }
        x = Due.told("person a 1 1 1;person b 1 1 1;shoe left 8 0 boot a;shoe right 8 0 boot b;law pair 0;");
        Due.is("0 and 0", x.rest(0, 1, 0), 0);
        Due.is("9 and 9", x.rest(0, 1, 99), 99);
        Due.is("no hundredth", x.rest(0, 1, 100), -2);
    }

    private static void p24Run() {
        Due.by("RUN: PERSONS (bits) who run in the end; NONE: bits of no PERSONS, without CLAIMS, below 0.");
        LeftShoes x = Due.told("person a 1 0 0;person b 1 0 0;person c 1 0 0;person d 1 0 0;person e 1 0 0;claim a 1;claim c 1;claim e 1;" + "shoe left 1 0 boot bank;".repeat(16));
        for (int persons = 0; persons < 32; persons++) Due.is("run(" + persons + ")", x.run(persons), (persons & 0b01010) == 0 ? persons : -1);
        for (int persons : new int[] {32, 33, 64, 1 << 30, -1, -31, -32, LEAST, LEAST + 1, MOST}) Due.is("run(" + persons + ")", x.run(persons), -1);
        x = Due.told("person a 1 0 0;claim a 1;");
        Due.is("a", x.run(1), 1);
        Due.is("no b", x.run(2), -1);
        Due.is("a and no b", x.run(3), -1);
        for (int persons : new int[] {-1, -2, LEAST, LEAST + 1}) Due.is("all have claims, but run(" + persons + ")", x.run(persons), -1);
        x = Due.told("person a 1 0 0;person b 1 0 0;claim b 1;");
        Due.is("a has none", x.run(1), -1);
        Due.is("b has one", x.run(2), 2);
        Due.is("one of both", x.run(3), -1);
        Due.is("nobody", new LeftShoes().run(0), 0);
        Due.is("no person", new LeftShoes().run(1), -1);
        Due.is("below 0 without persons", new LeftShoes().run(-1), -1);
    }

    private static void p25Save() {
        Due.by("SAVE; NONE likewise.");
        LeftShoes x = Due.told("person a 1 0 0;person b 1 0 0;person c 1 0 0;person d 1 0 0;person e 1 0 0;claim a 1;claim c 1;claim e 1;" + "shoe left 1 0 boot bank;".repeat(3));
        // 2 for the claim of one who stays, and 1 for each who runs; nothing, if all run.
        int[] due = {0, 0, 1, 0};
        for (int persons = 0; persons < 32; persons++) {
            Due.is("save(" + persons + ")", x.save(persons), (persons & 0b01010) == 0 ? due[Integer.bitCount(persons)] : -1);
        }
        for (int persons : new int[] {32, 33, 64, 1 << 30, -1, -31, -32, LEAST, LEAST + 1, MOST}) Due.is("save(" + persons + ")", x.save(persons), -1);
        x = Due.told("person a 1 0 0;claim a 1;");
        for (int persons : new int[] {-1, -2, LEAST, LEAST + 1}) Due.is("all have claims, but save(" + persons + ")", x.save(persons), -1);
        x = Due.told("person a 1 0 0;person b 1 0 0;claim b 1;");
        Due.is("a has none", x.save(1), -1);
        Due.is("b has one", x.save(2), 0);
        Due.is("nobody", new LeftShoes().save(0), 0);
        Due.is("no person", new LeftShoes().save(1), -1);
        Due.is("below 0 without persons", new LeftShoes().save(-1), -1);
    }

    // ---- promises 26 to 32

    private static void p26Track() {
        Due.by("A TRACK (SIDE 0, 1, SIZE 1 .. 20): its number; NONE: no such ones, or there are 24.");
        LeftShoes x = land();
        for (int side : new int[] {-1, 2, LEAST, MOST}) Due.is("side " + side, x.track(side, 1), -1);
        for (int size : new int[] {0, -1, 21, LEAST, MOST}) for (int side = 0; side <= 1; side++) Due.is("size " + size, x.track(side, size), -1);
        Due.is("none came", x.count(11), 0);
        Due.is("least", x.track(0, 1), 0);
        Due.is("most", x.track(1, 20), 1);
        for (int i = 2; i < 24; i++) Due.is("track " + i, x.track(0, 20), i);
        String stood = Due.standing(x);
        Due.is("a 25th", x.track(0, 1), -1);
        Due.same("none came", Due.standing(x), stood);
    }

    private static void p27Strike() {
        Due.by("A STRIKE: its number; NONE: no such TRACK, or there are 24.");
        LeftShoes x = land();
        Due.is("of none", x.strike(0), -1);
        x.track(0, 1);
        for (int none : new int[] {-1, 1, 2, 24, LEAST, MOST}) Due.is("strike(" + none + ")", x.strike(none), -1);
        Due.is("none came", x.count(11), 1);
        Due.is("of the first", x.strike(0), 1);
        Due.is("of a strike", x.strike(1), 2);
        Due.is("of itself", x.strike(3), -1);
        for (int i = 3; i < 24; i++) Due.is("strike " + i, x.strike(i - 1), i);
        Due.is("a 25th", x.strike(0), -1);
        Due.is("a 25th of the last", x.strike(23), -1);
        Due.is("24", x.count(11), 24);
    }

    private static void p28Known() {
        Due.by("KNOWN by n from now on (-1: by all, also those to come): true; false: no such n.");
        LeftShoes x = Due.told("person a 5 0 0;person b 6 0 0;person c 7 0 0;");
        Due.is("by none of none", x.known(0), true);
        Due.is("by one of none", x.known(1), false);
        x.track(0, 5);
        Due.is("by none still", x.who(), 0b111);
        Due.is("by all", x.known(-1), true);
        Due.is("a", x.who(), 0b001);
        x.track(0, 6);
        Due.is("also those to come", x.who(), 0);
        Due.is("by one", x.known(1), true);
        Due.is("a again", x.who(), 0b001);
        x.track(0, 7);
        x.strike(0);
        Due.is("none of those to come", x.who(), 0b001);
        Due.is("by how many", x.count(12), 1);
        for (int none : new int[] {-2, -3, 5, 6, 24, LEAST, MOST}) Due.is("known(" + none + ")", x.known(none), false);
        Due.is("it stays", x.count(12), 1);
        Due.is("by all there are", x.known(4), true);
        Due.is("by four", x.count(12), 4);
        x.strike(1);
        Due.is("by four still", x.count(12), 4);
        Due.is("by five", x.known(5), true);
        Due.is("by five of five", x.who(), 0b100);
        Due.is("by all again", x.known(-1), true);
        Due.is("all are five", x.count(12), 5);
    }

    private static void p29Who() {
        Due.by("WHO (bits).");
        LeftShoes x = Due.told("person a 5 0 0;person b 5 0 0;person c 6 0 0;person d 6 0 0;person e 5 0 0;");
        Due.is("all five", x.who(), 0b11111);
        x.track(0, 5);
        Due.is("three", x.who(), 0b10011);
        x.track(1, 6);
        Due.is("none", x.who(), 0);
        Due.is("of no persons", new LeftShoes().who(), 0);
    }

    private static void p30Tells() {
        Due.by("TELLS, what 0: the SIDE, 1: the SIZE, 2: how many it would leave. -2: none would leave one; NONE for another what.");
        LeftShoes x = Due.told("person a 20 0 0;person b 20 0 0;shoe left 1 0 boot a;shoe left 1 0 boot b;shoe right 20 0 boot b;shoe right 19 0 boot b;");
        x.on(0);
        x.on(1);
        x.on(3);
        Due.is("right", x.tells(0), 1);
        Due.is("19 ahead of 20", x.tells(1), 19);
        Due.is("one", x.tells(2), 1);
        for (int what : new int[] {-1, 3, LEAST, MOST}) Due.is("tells(" + what + ")", x.tells(what), -1);
        x.on(2);
        Due.is("left", x.tells(0), 0);
        Due.is("1", x.tells(1), 1);
        Due.is("two", x.tells(2), 2);
        x.track(0, 2);
        for (int what = 0; what <= 2; what++) Due.is("nobody: " + what, x.tells(what), -2);
        for (int what : new int[] {-1, 3}) Due.is("nobody: " + what, x.tells(what), -1);
        for (int what = 0; what <= 2; what++) Due.is("no persons: " + what, new LeftShoes().tells(what), -2);
        Due.is("no track comes of it", x.count(11), 1);
    }

    private static void p31Ring() {
        Due.by("RING: how many GOODS; -2: there is none.");
        Due.is("none", new LeftShoes().ring(), -2);
        Due.is("two", land().ring(), 2);
        Due.is("one rate", Due.told("swap boot left 1 felt left 99;").ring(), -2);
    }

    private static void p32Good() {
        Due.by("The k-th GOOD of it (0 the least); -2: there are no so many; NONE: k is below 0.");
        LeftShoes x = land();
        Due.is("the least", x.good(0), 0);
        Due.is("the last", x.good(1), 4);
        for (int k : new int[] {2, 5, 6, 7, MOST}) Due.is("good(" + k + ")", x.good(k), -2);
        for (int k : new int[] {-1, -2, LEAST}) Due.is("good(" + k + ")", x.good(k), -1);
        x = new LeftShoes();
        Due.is("no ring, 0", x.good(0), -2);
        Due.is("no ring, below 0", x.good(-1), -1);
        StringBuilder b = new StringBuilder();
        String[] goods = {"boot left", "boot right", "sandal left", "sandal right", "felt left", "felt right"};
        for (int i = 0; i < 6; i++) b.append("swap ").append(goods[(i + 3) % 6]).append(" 1 ").append(goods[(i + 4) % 6]).append(" 2;");
        x = Due.told(b.toString());
        for (int k = 0; k < 6; k++) Due.is("good " + k + " of six", x.good(k), k);
        Due.is("no seventh", x.good(6), -2);
    }

    // ---- promises 33 and 34

    private static void p33Chance() {
        Due.by("a seed 0 .. 2147483647 on, one behind another; n 1 .. 30 DAYS from now) a PERSON has WORTH of a bound 0 .. 9999 at least then; NONE: no such ones, behind DAY 999.");
        LeftShoes x = land();
        String stood = Due.standing(x);
        for (int seed : new int[] {0, 1, MOST}) Due.is("seed " + seed, x.chance(seed, 1, 0, 0), 10);
        for (int seed : new int[] {-1, LEAST}) Due.is("seed " + seed, x.chance(seed, 1, 0, 0), -1);
        for (int n : new int[] {1, 30}) Due.is("days " + n, x.chance(5, n, 0, 0), 10);
        for (int n : new int[] {0, -1, 31, LEAST, MOST}) Due.is("days " + n, x.chance(5, n, 0, 0), -1);
        for (int person : new int[] {0, 1}) Due.is("person " + person, x.chance(5, 1, person, 0), 10);
        for (int person : new int[] {-1, -2, 2, 5, LEAST, MOST}) Due.is("person " + person, x.chance(5, 1, person, 0), -1);
        for (int bound : new int[] {-1, 10000, LEAST, MOST}) Due.is("bound " + bound, x.chance(5, 1, 0, bound), -1);
        Due.is("bound 9999", x.chance(5, 1, 0, 9999), 0);
        Due.same("nothing came of it", Due.standing(x), stood);
        // a has 909 of each of fifteen: 9999 is reached, if no more than four are lost.
        x = Due.told("person a 1 0 0;" + "shoe left 1 0 boot a;".repeat(15) + "law worth 909;");
        Due.is("9999 at least after four days", x.chance(7, 4, 0, 9999), 10);
        x = Due.told("person a 1 0 0;" + "shoe left 1 0 boot a;".repeat(11) + "law worth 909;");
        int whole = x.chance(7, 1, 0, 9999);
        Due.is("9999 is just all eleven", whole > 0 && whole < 10, true);
        Due.is("9091 is all eleven, too", x.chance(7, 1, 0, 9091), whole);
        Due.is("9090 is ten of them", x.chance(7, 1, 0, 9090), 10);
    }

    private static void p33Behind999() {
        Due.by("behind DAY 999. ## Promise 34: tried");
        LeftShoes x = land();
        Due.pass(x, 969);
        Due.is("30 from 969 on", x.chance(5, 30, 0, 0), 10);
        x.days(1);
        Due.is("30 from 970 on", x.chance(5, 30, 0, 0), -1);
        Due.is("29 from 970 on", x.chance(5, 29, 0, 0), 10);
        x.days(28);
        Due.is("1 from 998 on", x.chance(5, 1, 0, 0), 10);
        Due.is("2 from 998 on", x.chance(5, 2, 0, 0), -1);
        x.days(1);
        Due.is("1 from 999 on", x.chance(5, 1, 0, 0), -1);
    }

    private static void p33YearsBegin() {
        Due.by("In how many of ten YEARS");
        // The numbers go on from year to year, and each year begins as it is now.
        LeftShoes x = Due.told("person a 1 0 0;shoe left 1 0 boot a;law worth 5;");
        long state = 11;
        int kept = 0;
        for (int year = 0; year < 10; year++) {
            boolean lost = false;
            for (int day = 0; day < 2; day++) {
                state = (state * 1103515245L + 12345L) % (1L << 31);
                if (state / 65536 % 3 == 1) {
                    state = (state * 1103515245L + 12345L) % (1L << 31);
                    lost = true;
                }
            }
            if (!lost) kept++;
        }
        Due.is("years it is kept", x.chance(11, 2, 0, 5), kept);
        Due.is("some, not all", kept > 0 && kept < 10, true);
        Due.is("asked again", x.chance(11, 2, 0, 5), kept);
    }

    private static void p34Tried() {
        Due.by("TRIED (n 0 .. 50); NONE: no such ones (i 0 of 0, 1, 4), behind DAY 999.");
        LeftShoes x = land();
        String stood = Due.standing(x);
        int worth = x.count(8);
        for (int what = 0; what <= 4; what++) {
            int due = what == 3 ? worth - 14 : what == 4 ? worth + 7 + 9 : worth;
            Due.is("tried " + what, x.tried(what, 0, 0), due);
            Due.is("tried " + what + " for 50", x.tried(what, 0, 50) >= 0, true);
            for (int n : new int[] {-1, 51, LEAST, MOST}) Due.is("tried " + what + " for " + n, x.tried(what, 0, n), -1);
        }
        for (int what : new int[] {-1, 5, LEAST, MOST}) Due.is("tried " + what, x.tried(what, 0, 0), -1);
        for (int what : new int[] {0, 1, 4}) for (int i : new int[] {-1, 1, LEAST, MOST}) Due.is("tried(" + what + ", " + i + ")", x.tried(what, i, 0), -1);
        Due.is("the last person", x.tried(2, 1, 0), worth);
        for (int i : new int[] {-1, 2, 5, LEAST, MOST}) Due.is("person " + i, x.tried(2, i, 0), -1);
        Due.is("the last shoe", x.tried(3, 4, 0), worth - 2);
        for (int i : new int[] {-1, 5, 16, LEAST, MOST}) Due.is("shoe " + i, x.tried(3, i, 0), -1);
        Due.same("nothing came of it", Due.standing(x), stood);
        Due.is("a shoe in the grave", grave().tried(3, 0, 0), 15);
        x = new LeftShoes();
        Due.is("no persons", x.tried(2, 0, 0), -1);
        Due.is("no shoes", x.tried(3, 0, 0), -1);
        Due.is("nothing at all", x.tried(4, 0, 50), 0);
    }

    private static void p34Behind999() {
        Due.by("(i 0 of 0, 1, 4), behind DAY 999.");
        LeftShoes x = land();
        Due.pass(x, 949);
        Due.is("50 from 949 on", x.tried(0, 0, 50) >= 0, true);
        x.days(1);
        Due.is("50 from 950 on", x.tried(0, 0, 50), -1);
        Due.is("49 from 950 on", x.tried(0, 0, 49) >= 0, true);
        x.days(49);
        Due.is("1 from 999 on", x.tried(0, 0, 1), -1);
        Due.is("0 from 999 on", x.tried(0, 0, 0) >= 0, true);
    }

    // ---- promises 35 to 38

    private static void p35Undo() {
        Due.by("The latest is undone: how many are left; NONE: none.");
        LeftShoes x = land();
        Due.is("none", x.undo(), -1);
        x.on(0);
        x.give(1, 1);
        Due.is("one is left", x.undo(), 1);
        Due.is("that was the latest", x.shoe(1, 4), 0);
        Due.is("none is left", x.undo(), 0);
        Due.is("barefoot", x.person(0, 0), -1);
        Due.is("none any more", x.undo(), -1);
        Due.same("as at first", Due.standing(x), Due.standing(land()));
        x.pay(0, 1, 13);
        x.give(0, 0);
        x.on(4);
        x.off(0);
        Due.is("refused calls are none", x.undo(), -1);
    }

    private static void p36Keep() {
        Due.by("An IMAGE is kept (in place of one ahead): which DAY it is.");
        LeftShoes x = land();
        Due.is("day 0", x.keep(), 0);
        x.days(7);
        Due.is("day 7", x.keep(), 7);
        x.days(3);
        Due.is("the latter one", x.back(), 7);
        Due.is("and again", x.back(), 7);
        Due.pass(x, 992);
        Due.is("day 999", x.keep(), 999);
        Due.is("day 999 again", x.back(), 999);
        x.on(0);
        x.keep();
        Due.is("what can be undone stays", x.undo(), 0);
    }

    private static void p37Back() {
        Due.by("All (but TRACKS) is as in the IMAGE (nothing to undo then): which DAY it is; NONE: there is none.");
        LeftShoes x = land();
        x.on(0);
        x.track(0, 5);
        String stood = Due.standing(x);
        Due.is("none", x.back(), -1);
        Due.same("all stays", Due.standing(x), stood);
        x.keep();
        x.off(0);
        x.give(1, 1);
        x.days(9);
        x.days(2);
        Due.is("back", x.back(), 0);
        Due.is("nothing to undo", x.undo(), -1);
        Due.is("nothing to undo by count", x.count(13), 0);
        Due.is("worn", x.person(0, 0), 0);
        Due.is("whose", x.shoe(1, 4), 0);
        Due.is("to come", x.debt(0, 4), 0);
        Due.is("tracks stay", x.count(11), 1);
        x.off(0);
        Due.is("undone then", x.undo(), 0);
        x.off(0);
        Due.is("one to undo", x.count(13), 1);
        Due.is("back on the same day", x.back(), 0);
        Due.is("nothing to undo on the same day", x.undo(), -1);
        Due.is("worn all the same", x.person(0, 0), 0);
        Due.tell(x, LAND);
        Due.is("none by a new text", x.back(), -1);
        x.keep();
        Due.tell(x, "!");
        Due.is("there is one behind a fault", x.back(), 0);
    }

    private static void p38Counts() {
        Due.by("0 PERSONS, 1 SHOES, 2 DEBTS, 3 RATES, 4 KNOTS, 5 the DAY, 6 SHOES in the GRAVE, 7 of the BANK, 8 all WORTH, 9 DEBTS PAID, 10 REFUSED, 11 TRACKS, 12 by how many it is KNOWN, 13 what can be undone.");
        LeftShoes x = Due.told("person a 1 10 0;person b 1 0 0;shoe left 9 49 boot a;shoe left 9 0 boot bank;shoe left 9 0 boot bank;shoe left 9 0 boot b;debt b a 18 0;debt b a 18 1;debt a b 17 1;"
            + "debt a b 7 9;swap boot left 1 felt left 1;law pair 1+1;");
        int[] first = {2, 4, 4, 1, 3, 0, 0, 2, 63, 0, 0, 0, 0, 0};
        for (int what = 0; what <= 13; what++) Due.is("count(" + what + ")", x.count(what), first[what]);
        x.on(0);
        x.days(2);
        x.track(0, 1);
        x.track(0, 1);
        x.strike(1);
        x.known(2);
        x.give(1, 0);
        int[] then = {2, 4, 4, 1, 3, 2, 1, 1, 54, 1, 2, 3, 2, 1};
        for (int what = 0; what <= 13; what++) Due.is("then count(" + what + ")", x.count(what), then[what]);
    }

    private static void p38AnotherWhat() {
        Due.by("13 what can be undone. NONE for another what.");
        LeftShoes x = land();
        for (int what : new int[] {-1, 14, 15, LEAST, MOST}) Due.is("count(" + what + ")", x.count(what), -1);
        Due.is("count(0)", x.count(0), 2);
        Due.is("count(13)", x.count(13), 0);
    }

    private static void callsOfOneObject() {
        Due.by("An object is used for at most 512 calls after it has been made");
        LeftShoes x = new LeftShoes();
        for (int i = 1; i <= 509; i++) x.feed(BLANKS, BLANKS, BLANKS, BLANKS, BLANKS);
        Due.is("the 510th", x.text(700), 0);
        Due.is("the 511th", x.count(5), 0);
        Due.is("the 512th", x.days(50), 50);
    }
}
