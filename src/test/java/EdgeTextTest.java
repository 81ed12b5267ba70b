import java.math.BigInteger;
import java.util.Arrays;
import java.util.List;

/** The sentences on texts (Terms, ahead of ==== 2.) that name a boundary: each held on both sides of it. */
public final class EdgeTextTest {
    private static final List<String> WORDS = List.of(("person shoe debt claim swap seed law left right boot sandal felt bank "
        + "worth pair wear or and not size used sort steps day foot").split(" "));
    private static final List<String> SIGNS = List.of("<", "<=", "=", "<>", ">=", ">", "+", "-", "*", "/");
    private static final String A = "person a 1 1 1;";
    private static final String AB = A + "person b 1 1 1;";
    private static final String[] GOODS = {"boot left", "boot right", "sandal left", "sandal right", "felt left", "felt right"};

    public static void main(String[] args) {
        Due.each(EdgeTextTest.class);
    }

    // ---- lines

    private static void linesEachWithASemicolonBehind() {
        Due.by("A TEXT: { LINE ';' }.");
        Due.sound("", 0);
        Due.sound(" ", 0);
        Due.sound("\n \n", 0);
        Due.sound("seed 1;", 1);
        Due.sound("seed 1;law worth 1;", 2);
        Due.sound("seed 1 ;\nlaw worth 1\n; ", 2);
        Due.bad(1, "seed 1^");
        Due.bad(1, "seed 1;law worth 1^");
        Due.bad(1, "^;");
        Due.bad(1, "seed 1;^;");
        Due.bad(1, "seed 1 ^law worth 1;");
    }

    // Each token is left out with all behind it, is another one, is followed by one too many.
    private static void line(String ahead, String line) {
        Due.good(ahead + line + ";");
        String[] tokens = line.split(" ");
        for (int n = 1; n < tokens.length; n++) {
            String part = ahead + String.join(" ", Arrays.copyOf(tokens, n));
            for (String end : new String[] {"^;", " ^;", "^", "  \n^", " ^+", " ^A", " ^law"}) Due.bad(1, part + end);
            String rest = String.join(" ", Arrays.copyOfRange(tokens, n + 1, tokens.length)) + ";";
            for (String other : new String[] {"^+ ", "^) ", "^A ", "^swap ", "^abcdefg "}) Due.bad(1, part + " " + other + rest);
        }
        for (String more : new String[] {"1", "left", "a", "bank", "(", "A", "seed"}) Due.bad(1, ahead + line + " ^" + more + ";");
        Due.bad(1, ahead + line + "^");
        Due.bad(1, ahead + line + " \n ^");
    }

    private static void personLine() {
        Due.by("person W N N N");
        line(AB, "person c 1 1 1");
    }

    private static void shoeLine() {
        Due.by("shoe SIDE N N KIND OWNER");
        line(AB, "shoe left 1 1 boot a");
        line("", "shoe right 1 1 felt bank");
    }

    private static void debtLine() {
        Due.by("debt W W N N");
        line(AB, "debt a b 1 1");
    }

    private static void claimLine() {
        Due.by("claim W N");
        line(AB, "claim a 1");
    }

    private static void swapLine() {
        Due.by("swap KIND SIDE N KIND SIDE N");
        line("", "swap boot left 1 felt right 1");
    }

    private static void seedLine() {
        Due.by("seed N");
        line("", "seed 1");
    }

    private static void lawLine() {
        Due.by("law RULE E.");
        line("", "law worth 1");
    }

    private static void onlyThese(String taken, String ahead, String behind) {
        for (String word : WORDS) {
            if (List.of(taken.split(" ")).contains(word)) Due.good(ahead + word + behind);
            else Due.bad(1, ahead + "^" + word + behind);
        }
    }

    private static void wordsThatBeginALine() {
        Due.by("LINE: person");
        for (String word : WORDS) {
            boolean begins = WORDS.indexOf(word) < 7;
            if (begins) Due.fault(word, 1, word.length());
            else Due.bad(1, "^" + word);
        }
        Due.bad(1, "^a 1;");
        Due.bad(1, "^1;");
    }

    private static void sides() {
        Due.by("SIDE: left | right.");
        onlyThese("left right", "shoe ", " 1 1 boot bank;");
        onlyThese("left right", "swap boot ", " 1 felt right 1;");
        onlyThese("left right", "swap boot left 1 felt ", " 1;");
        Due.bad(1, "shoe ^a 1 1 boot bank;");
        Due.is("left is 0", Due.told("shoe left 1 1 boot bank;").shoe(0, 0), 0);
        Due.is("right is 1", Due.told("shoe right 1 1 boot bank;").shoe(0, 0), 1);
    }

    private static void kinds() {
        Due.by("KIND: boot | sandal | felt.");
        onlyThese("boot sandal felt", "shoe left 1 1 ", " bank;");
        onlyThese("boot sandal felt", "swap ", " left 1 felt right 1;");
        onlyThese("boot sandal felt", "swap boot left 1 ", " right 1;");
        Due.bad(1, "shoe left 1 1 ^a bank;");
    }

    private static void kindsByNumber() {
        Due.by("KIND 0 boot, 1 sandal, 2 felt");
        Due.is("boot", Due.told("shoe left 1 1 boot bank;").shoe(0, 3), 0);
        Due.is("sandal", Due.told("shoe left 1 1 sandal bank;").shoe(0, 3), 1);
        Due.is("felt", Due.told("shoe left 1 1 felt bank;").shoe(0, 3), 2);
    }

    private static void owners() {
        Due.by("OWNER: W | bank.");
        onlyThese("bank", A + "shoe left 1 1 boot ", ";");
        Due.good(A + "shoe left 1 1 boot a;");
        Due.bad(1, A + "shoe left 1 1 boot ^1;");
    }

    private static void rules() {
        Due.by("RULE: worth | pair | wear.");
        onlyThese("worth pair wear", "law ", " 1;");
        Due.bad(1, "law ^a 1;");
        Due.bad(1, "law ^1;");
    }

    // ---- words, numbers, blanks

    private static void lettersOfAName() {
        Due.by("W: one of 1 .. 6 letters");
        String letters = "zyxwvutsrqponmlkjihgfedcba";
        for (int n = 1; n <= 26; n++) {
            String name = letters.substring(0, n);
            if (n <= 6) {
                Due.good("person " + name + " 1 1 1;person b 1 1 1;shoe left 1 1 boot " + name + ";debt " + name + " b 1 1;debt b " + name + " 1 1;claim " + name + " 1;");
                continue;
            }
            // The first six letters are a name that is told: the word is none all the same.
            String ahead = "person zyxwvu 1 1 1;person b 1 1 1;";
            Due.bad(1, "person ^" + name + " 1 1 1;");
            Due.bad(1, ahead + "shoe left 1 1 boot ^" + name + ";");
            Due.bad(1, ahead + "debt ^" + name + " b 1 1;");
            Due.bad(1, ahead + "debt b ^" + name + " 1 1;");
            Due.bad(1, ahead + "claim ^" + name + " 1;");
        }
    }

    private static void namesAreNoWordsOfTheLanguage() {
        Due.by("none of those of the language");
        for (String word : WORDS) {
            Due.bad(1, "person ^" + word + " 1 1 1;");
            Due.bad(1, A + "debt ^" + word + " a 1 1;");
            Due.bad(1, A + "debt a ^" + word + " 1 1;");
            Due.bad(1, A + "claim ^" + word + " 1;");
            for (String near : new String[] {word.substring(1), word.substring(0, word.length() - 1), word + "a", "a" + word}) {
                if (!WORDS.contains(near) && near.length() <= 6) Due.good("person " + near + " 1 1 1;claim " + near + " 1;");
                else if (near.length() > 6) Due.bad(1, "person ^" + near + " 1 1 1;");
            }
        }
    }

    private static void signsOfWords() {
        Due.by("Words: small letters in a row");
        for (int b = 0; b < 256; b++) {
            if (b == 10 || b == 32) continue;
            String text = "person " + (char) b + " 1 1 1;";
            if (b >= 'a' && b <= 'z') Due.good(text);
            else Due.fault(text, 1, 7);
        }
        Due.bad(1, "person a ^b 1 1 1;");
        Due.bad(1, "^per son a 1 1 1;");
        Due.good("person ab1 1 1;");
        Due.good("person a1 1 1;shoe left1 1boot a;");
    }

    private static void signsOfNumbers() {
        Due.by("N: digits.");
        for (int b = 0; b < 256; b++) {
            if (b == 10 || b == 32) continue;
            String text = "seed " + (char) b + ";";
            if (b >= '0' && b <= '9') Due.good(text);
            else Due.fault(text, 1, 5);
        }
        Due.good("seed 00000000000000000000000000000099999;");
        Due.bad(1, "seed 1 ^2;");
        Due.bad(1, "seed ^-1;");
        Due.bad(1, "seed ^+1;");
        Due.bad(1, "seed 1^.0;");
        Due.bad(1, "seed 1^a;");
    }

    private static void blanks() {
        Due.by("Blanks 10, 32.");
        for (int b = 0; b < 256; b++) {
            boolean letter = b >= 'a' && b <= 'z';
            boolean digit = b >= '0' && b <= '9';
            String text = "seed" + (char) b + "1;";
            if (b == 10 || b == 32 || digit) Due.good(text);
            else Due.fault(text, 1, letter ? 0 : 4);
            if (b != 10 && b != 32) Due.is("alone: " + b, Due.tell(new LeftShoes(), "" + (char) b), -1);
            else Due.is("alone: " + b, Due.tell(new LeftShoes(), "" + (char) b), 0);
        }
        Due.good("\n\n  seed\n \n1 \n;\n");
    }

    // ---- expressions

    private static void law(String e) {
        Due.good("law worth " + e + ";");
    }

    private static void badLaw(String e) {
        Due.bad(1, "law worth " + e + ";");
    }

    private static void orsAndAnds() {
        Due.by("E: A { or A }. A: B { and B }.");
        law("1");
        law("1 or 1");
        law("1 or 1 or 1 and 1 and 1 or 1");
        badLaw("^or 1");
        badLaw("1 or^");
        badLaw("1 or ^or 1");
        badLaw("^and 1");
        badLaw("1 and^");
        badLaw("1 and ^or 1");
    }

    private static void nots() {
        Due.by("B: not B | C.");
        law("not 1");
        law("not not not 1");
        law("not 1 and not 1 or not not 1");
        law("not 1 < 2");
        law("1 + (not 1)");
        badLaw("not^");
        badLaw("1 ^not 1");
        badLaw("1 + ^not 1");
        badLaw("1 * ^not 1");
        badLaw("1 < ^not 1");
        badLaw("not ^and 1");
    }

    private static void oneComparison() {
        Due.by("C: S [ ( < | <= | = | <> | >= | > ) S ].");
        for (String sign : SIGNS.subList(0, 6)) {
            law("1" + sign + "2");
            law("(1" + sign + "2)" + sign + "3");
            law("1" + sign + "(2" + sign + "3)");
            law("1" + sign + "2 and 2" + sign + "3");
            badLaw("1" + sign + "^");
            badLaw("^" + sign + "1");
            for (String other : SIGNS.subList(0, 6)) badLaw("1" + sign + "2^" + other + "3");
        }
    }

    private static void sums() {
        Due.by("S: T { ( + | - ) T }. T: P { ( * | / ) P }.");
        law("1+2-3+4");
        law("1*2/3*4");
        law("1-2*3");
        for (String sign : SIGNS.subList(6, 10)) {
            badLaw("^" + sign + "1");
            badLaw("1" + sign + "^");
            badLaw("1" + sign + "^" + sign + "1");
        }
    }

    private static void operands() {
        Due.by("P: N | NAME | '(' E ')'");
        law("(1)");
        law("((1) or (size))");
        badLaw("^");
        badLaw("(^)");
        badLaw("(1^");
        badLaw("1^)");
        badLaw("(1)^)");
        badLaw("1 ^1");
        badLaw("1 ^size");
        badLaw("1 ^(1)");
        badLaw("(1)^(1)");
        badLaw("(1)^1");
        Due.bad(1, "law worth (1^");
        Due.bad(1, "law worth (1 ^;)");
    }

    private static void names() {
        Due.by("NAME: size used left sort steps day foot.");
        for (String word : WORDS) {
            if (word.equals("not")) continue;
            if (List.of("size", "used", "left", "sort", "steps", "day", "foot").contains(word)) law(word + "+" + word);
            else badLaw("^" + word);
        }
        badLaw("^a");
        badLaw("^siz");
        badLaw("^sizes");
        badLaw("^sizesize");
    }

    private static void joinedSigns() {
        Due.by("A = (or > behind <) right behind < or > belongs to it.");
        for (String sign : List.of("<=", ">=", "<>")) Due.is("knots of " + sign, Due.told("law worth 1" + sign + "2;").count(4), 3);
        badLaw("1< ^=2");
        badLaw("1> ^=2");
        badLaw("1< ^>2");
        badLaw("1>^>2");
        badLaw("1<^<2");
        badLaw("1>^<2");
        badLaw("1=^<2");
        badLaw("1=^>2");
        badLaw("1=^=2");
        badLaw("1<=^=2");
        badLaw("1<=^>2");
        badLaw("1>=^=2");
        badLaw("1<>^=2");
        badLaw("1<>^>2");
        badLaw("1+^=2");
        // What stands behind the first n bytes belongs to nothing.
        for (String sign : List.of("<=", ">=", "<>")) {
            LeftShoes x = new LeftShoes();
            Due.feed(x, "law worth 1" + sign + "2;");
            Due.is("cut between the two", x.text(12), -1);
            Due.is("the length", x.fault(1), 12);
        }
    }

    // ---- numbers beyond what is said

    private static void numbers(String ahead, int least, int most, String behind) {
        for (String zeros : new String[] {"", "0", "00000000000000000000"}) {
            Due.good(ahead + zeros + least + behind);
            Due.good(ahead + zeros + most + behind);
            Due.bad(2, ahead + "^" + zeros + (most + 1) + behind);
            if (least > 0) Due.bad(2, ahead + "^" + zeros + (least - 1) + behind);
        }
        // Where a number wraps around, it would be small again.
        for (int bits : new int[] {8, 16, 20, 31, 32, 33, 63, 64, 128}) {
            BigInteger wrapped = BigInteger.TWO.pow(bits).add(BigInteger.valueOf(least));
            if (wrapped.compareTo(BigInteger.valueOf(most)) > 0) Due.bad(2, ahead + "^" + wrapped + behind);
        }
        Due.bad(2, ahead + "^" + "9".repeat(40) + behind);
        Due.bad(2, ahead + "^1" + "0".repeat(40) + behind);
    }

    private static void numbersOfE() {
        Due.by("N of E 0 .. 9999.");
        numbers("law worth ", 0, 9999, ";");
        numbers("law pair 1+(2*", 0, 9999, ");");
        Due.is("0", Due.told("shoe left 1 1 boot bank;law worth 0;").law(0, 0, 0), 0);
        Due.is("9999", Due.told("shoe left 1 1 boot bank;law worth 9999;").law(0, 0, 0), 9999);
    }

    private static void feet() {
        Due.by("FOOT 1 .. 20");
        numbers("person a ", 1, 20, " 1 1;");
        for (int foot : new int[] {1, 20}) {
            Due.is("foot", Due.told("person a " + foot + " 1 1;shoe left 1 1 boot a;law worth foot;").law(0, 0, 0), foot);
        }
    }

    private static void steps() {
        Due.by("STEPS 0 .. 99 a DAY");
        numbers("person a 1 ", 0, 99, " 1;");
        for (int steps : new int[] {0, 99}) {
            Due.is("steps", Due.told("person a 1 " + steps + " 1;shoe left 1 1 boot a;law worth steps;").law(0, 0, 0), steps);
        }
    }

    private static void fares() {
        Due.by("FARE 0 .. 99");
        numbers("person a 1 1 ", 0, 99, ";");
        for (int fare : new int[] {0, 99}) {
            LeftShoes x = Due.told("person a 1 1 " + fare + ";shoe left 1 1 boot a;law worth 500*(used=1);law wear 1;");
            x.on(0);
            Due.is("fare", x.walk(0, 1, 0), fare);
        }
    }

    private static void sizes() {
        Due.by("SIZE 1 .. 20");
        numbers("shoe left ", 1, 20, " 1 boot bank;");
        Due.is("1", Due.told("shoe left 1 1 boot bank;").shoe(0, 1), 1);
        Due.is("20", Due.told("shoe left 20 1 boot bank;").shoe(0, 1), 20);
    }

    private static void used() {
        Due.by("USED 0 .. 49");
        numbers("shoe left 1 ", 0, 49, " boot bank;");
        Due.is("0", Due.told("shoe left 1 0 boot bank;").shoe(0, 2), 0);
        LeftShoes x = Due.told("shoe left 1 49 boot bank;");
        Due.is("49", x.shoe(0, 2), 49);
        Due.is("49 is not in the grave", x.shoe(0, 4), -1);
    }

    private static void howMuch() {
        Due.by("how much 1 .. 999");
        numbers(AB + "debt a b ", 1, 999, " 1;");
        Due.is("1", Due.told(AB + "debt a b 1 1;").debt(0, 2), 1);
        Due.is("999", Due.told(AB + "debt a b 999 1;").debt(0, 2), 999);
    }

    private static void daysOfDebts() {
        Due.by("on a DAY 0 .. 99.");
        numbers(AB + "debt a b 1 ", 0, 99, ";");
        Due.is("0", Due.told(AB + "debt a b 1 0;").debt(0, 3), 0);
        Due.is("99", Due.told(AB + "debt a b 1 99;").debt(0, 3), 99);
    }

    private static void claims() {
        Due.by("on 1 .. 9 SHOES of the BANK.");
        numbers(A + "claim a ", 1, 9, ";");
        Due.is("1 in an empty bank", Due.told(A + "claim a 1;").save(0), 2);
        Due.is("9 in an empty bank", Due.told(A + "claim a 9;").save(0), 18);
    }

    private static void ratesGiven() {
        Due.by("so many 1 .. 99 of a GOOD (KIND and SIDE)");
        numbers("swap boot left ", 1, 99, " felt right 1;");
        String back = "swap felt right 1 boot left 99;";
        Due.is("99 for 1 and back is no gain", Due.told("swap boot left 99 felt right 1;" + back).ring(), -2);
        Due.is("98 for 1 and back is a gain", Due.told("swap boot left 98 felt right 1;" + back).ring(), 2);
    }

    private static void ratesGot() {
        Due.by("for so many 1 .. 99 of another one");
        numbers("swap boot left 1 felt right ", 1, 99, ";");
        String back = "swap felt right 99 boot left 1;";
        Due.is("1 for 99 and back is no gain", Due.told("swap boot left 1 felt right 99;" + back).ring(), -2);
        Due.is("1 for 99 and more back is a gain", Due.told("swap boot left 1 felt right 99;swap felt right 98 boot left 1;").ring(), 2);
    }

    private static void seeds() {
        Due.by("seed: 0 .. 99999 (0).");
        numbers("seed ", 0, 99999, ";");
        numbers("law worth 1;seed ", 0, 99999, ";law pair 1;");
    }

    // ---- how many

    // One line more is too much at its first word, whatever comes behind it.
    private static void atMost(String all, String word, String line, int what, int most) {
        Due.good(all);
        Due.is(word, Due.told(all).count(what), most);
        Due.bad(2, all + "^" + line);
        Due.bad(2, all + "^" + word);
        Due.bad(2, all + "^" + word + ";");
        Due.bad(2, all + "\n ^" + word + " !");
    }

    private static void fivePersons() {
        Due.by("PERSONS, at most 5");
        String all = AB + "person c 1 1 1;person d 1 1 1;person e 1 1 1;";
        atMost(all, "person", "person f 1 1 1;", 0, 5);
        atMost(all, "person", "person a 1 1 1;", 0, 5);
        Due.good(all + "shoe left 1 1 boot e;claim e 1;debt e d 1 1;");
    }

    private static void sixteenShoes() {
        Due.by("SHOES, at most 16");
        String shoe = "shoe left 1 1 boot bank;";
        atMost(shoe.repeat(16), "shoe", shoe, 1, 16);
        atMost(A + "shoe right 1 1 felt a;".repeat(16), "shoe", shoe, 1, 16);
        Due.good(shoe.repeat(15));
    }

    private static void eightDebts() {
        Due.by("DEBTS, at most 8");
        String debt = "debt a b 1 1;";
        atMost(AB + debt.repeat(8), "debt", debt, 2, 8);
        Due.good(AB + debt.repeat(7));
    }

    private static void eightRates() {
        Due.by("RATES, at most 8");
        String all = "";
        for (int i = 0; i < 8; i++) all += "swap " + GOODS[i / 3] + " 1 " + GOODS[i % 3 + (i % 3 >= i / 3 ? 1 : 0)] + " 1;";
        atMost(all, "swap", "swap felt left 1 felt right 1;", 3, 8);
        atMost(all, "swap", "swap boot left 1 boot right 1;", 3, 8);
    }

    private static void claimsOfAll() {
        Due.by("CLAIMS: of a PERSON (each once)");
        String five = AB + "person c 1 1 1;person d 1 1 1;person e 1 1 1;";
        Due.good(five + "claim e 1;claim d 1;claim c 1;claim b 1;claim a 1;");
        Due.bad(3, five + "claim e 1;claim d 1;claim c 1;claim b 1;claim a 1;claim ^e 1;");
        Due.bad(3, five + "claim a 1;claim ^a 2;");
    }

    private static void numberedAsTheyCome() {
        Due.by("All numbered as they come; PERSONS have names.");
        LeftShoes x = Due.told("shoe left 3 1 boot bank;person q 1 1 1;shoe left 4 1 boot q;person p 2 2 2;debt p q 7 1;shoe left 5 1 boot p;debt q p 8 1;");
        for (int i = 0; i < 3; i++) {
            Due.is("shoe " + i, x.shoe(i, 1), 3 + i);
            Due.is("whose " + i, x.shoe(i, 4), i - 1);
        }
        Due.is("q", x.named(17 << 25), 0);
        Due.is("p", x.named(16 << 25), 1);
        Due.is("first debt", x.debt(0, 2), 7);
        Due.is("second debt", x.debt(1, 2), 8);
    }

    // ---- faults

    private static void theFirstFault() {
        Due.by("FAULTS, the first along the text");
        Due.bad(2, "person a ^0 100 100;;");
        Due.bad(2, "person a 1 ^100 100;");
        Due.bad(4, "shoe left 1 1 boot ^x;;");
        Due.bad(5, A + "debt a ^a 0 100");
        Due.bad(3, "seed 1;^seed 100000;");
        Due.bad(3, A + "person ^a 0 1 1;");
        Due.bad(2, "swap boot left ^0 boot left 1;");
        Due.bad(5, "swap boot left 1 boot ^left 0;");
        Due.bad(2, AB + "person c 1 1 1;person d 1 1 1;person e 1 1 1;^person a 0");
        Due.bad(4, "debt ^a a 0 0;");
        Due.bad(1, A + "debt a ^1 1;");
        Due.bad(3, A + "claim a 1;claim ^a 0;");
    }

    private static void theLeastFaultOfOnePlace() {
        Due.by("(of one place the least)");
        Due.bad(1, "law worth 1 ^10000;");
        Due.bad(2, "law worth 1+^10000;");
        Due.bad(1, "law worth ((((((((1^(");
        Due.bad(2, "law worth ((((((((^(");
        String full = "law worth not 1" + "+1".repeat(31);
        Due.bad(1, full + " ^1;");
        Due.bad(1, full + " ^size;");
        Due.bad(1, full + " ^not 1;");
        Due.bad(2, full + "^+1;");
        Due.bad(1, "law worth not not 1" + "+1".repeat(29) + "<1^<1;");
        String five = AB + "person c 1 1 1;person d 1 1 1;person e 1 1 1;";
        Due.bad(1, five + "claim ^person 1;");
        Due.bad(1, "seed 1;law worth ^seed 1;");
        Due.bad(1, "seed ^seed 1;");
    }

    private static void tokensThatAreNone() {
        Due.by("1 a TOKEN that is none");
        for (int b = 0; b < 256; b++) {
            boolean sign = "abcdefghijklmnopqrstuvwxyz0123456789()<=>+-*/; \n".indexOf(b) >= 0;
            if (!sign) {
                Due.fault("law worth 1 " + (char) b, 1, 12);
                Due.fault("" + (char) b + "seed 1;", 1, 0);
                Due.fault("seed 1;" + (char) b, 1, 7);
            }
        }
    }

    private static void wordsThatAreTooLong() {
        Due.by("(a word of more than 6 letters that isn't of the language, too)");
        Due.bad(1, "^persona a 1 1 1;");
        Due.bad(1, "^sandals a 1 1 1;");
        Due.bad(1, "person ^abcdefg 1 1 1;");
        Due.good("person abcdef 1 1 1;");
        Due.bad(1, "law worth ^abcdefg;");
        Due.bad(1, "shoe left 1 1 ^sandall bank;");
        Due.good("shoe left 1 1 sandal bank;");
    }

    private static void theLength() {
        Due.by("or can't stand there (the length, if more must come).");
        String text = "person a 12 13 14;";
        for (int n = 0; n <= 18; n++) {
            LeftShoes x = new LeftShoes();
            Due.feed(x, text);
            boolean whole = n == 0 || n == 18;
            // Within the word at the beginning the word itself is none that can stand there.
            boolean part = n >= 1 && n <= 5;
            Due.is("text(" + n + ")", x.text(n), n == 0 ? 0 : n == 18 ? 1 : -1);
            Due.is("fault of " + n, x.fault(0), whole ? 0 : 1);
            Due.is("place of " + n, x.fault(1), whole ? -1 : part ? 0 : n);
        }
        LeftShoes x = new LeftShoes();
        Due.feed(x, "seed 5      ;");
        Due.is("blanks at the end", x.text(12), -1);
        Due.is("the length with them", x.fault(1), 12);
    }

    private static void tooMuchAtIt() {
        Due.by("2 too much (at it): a number beyond what is said, a sixth person and so on (at the word of the LINE)");
        Due.good("person a 20 99 99;shoe left 20 49 boot a;");
        Due.bad(2, "person a ^21 99 99;");
        Due.bad(2, "person a 20 ^100 99;");
        Due.bad(2, "person a 20 99 ^100;");
        Due.bad(2, "person a 20 99 99;shoe left ^21 49 boot a;");
        Due.bad(2, "person a 20 99 99;shoe left 20 ^50 boot a;");
        String five = AB + "person c 1 1 1;person d 1 1 1;person e 1 1 1;";
        Due.good(five + "seed 1;shoe left 1 1 boot bank;");
        Due.bad(2, five + "seed 1;shoe left 1 1 boot bank;^person f 1 1 1;");
    }

    private static void aNinthBracket() {
        Due.by("a ninth '(' open");
        Due.good("law worth " + "(".repeat(8) + "1" + ")".repeat(8) + ";");
        Due.bad(2, "law worth " + "(".repeat(8) + "^(1" + ")".repeat(9) + ";");
        Due.bad(2, "law worth " + "( ".repeat(8) + "^(");
        String eight = "(".repeat(8) + "1" + ")".repeat(8);
        Due.good("law worth " + eight + "+" + eight + ";law pair " + eight + ";");
        Due.good("law worth (1)" + "+(1)".repeat(12) + ";");
        Due.bad(2, "law worth " + eight + "+" + "(".repeat(8) + "^(");
        Due.good("law worth " + "(".repeat(7) + "(1)+(1)" + ")".repeat(7) + ";");
        Due.bad(2, "law worth " + "(".repeat(7) + "(1)+(^(1))" + ")".repeat(7) + ";");
        Due.bad(2, "law worth " + "not (".repeat(8) + "not ^(");
    }

    // Of 64 knots each: one more of every kind is too much, at it.
    private static void theSixtyFifthKnot() {
        Due.by("a 65th KNOT of all E (N, NAMES, signs, not, and, or: one each).");
        String full = "law worth not 1" + "+1".repeat(31);
        Due.is("64", Due.told(full + ";").count(4), 64);
        for (String sign : SIGNS) {
            Due.bad(2, full + "^" + sign + "1;");
            Due.bad(2, full + "^" + sign);
        }
        Due.bad(2, full + " ^and 1;");
        Due.bad(2, full + " ^or 1;");
        Due.bad(2, full + ";law pair ^1;");
        Due.bad(2, full + ";law pair (((^1)));");
        Due.bad(2, full + ";law pair ^not");
        for (String name : "size used left sort steps day foot".split(" ")) Due.bad(2, full + ";law pair ^" + name + ";");
        Due.good("law worth " + "(".repeat(8) + "not 1" + "+1".repeat(31) + ")".repeat(8) + ";");
        String odd = "law worth 1" + "+1".repeat(31);
        Due.is("63", Due.told(odd + ";").count(4), 63);
        Due.is("64 of two", Due.told(odd + ";law wear size;").count(4), 64);
        Due.bad(2, odd + "+^1;");
        Due.bad(2, odd + ";law wear size ^or 1;");
        Due.bad(2, odd + ";law wear 1;law pair ^1;");
        Due.bad(2, odd + ";law wear not ^1;");
        Due.is("64 of three", Due.told("law worth 1" + "+1".repeat(10) + ";law wear 1" + "+1".repeat(10) + ";law pair not 1" + "+1".repeat(10) + ";").count(4), 64);
        Due.bad(2, "law worth 1" + "+1".repeat(10) + ";law wear 1" + "+1".repeat(10) + ";law pair not 1" + "+1".repeat(10) + "^+1;");
        Due.is("none", Due.told("seed 1;").count(4), 0);
        Due.is("one of each kind", Due.told("law worth not 1<2 and 1<=size or 1=2 and 1<>2 or 1>=2 and 1>2 or 1+2-3*4/5;").count(4), 34);
    }

    private static void namesToldAlready() {
        Due.by("3 told already: a PERSON's name");
        Due.bad(3, A + "person ^a 1 1 1;");
        Due.bad(3, AB + "person ^b 1 1 1;");
        Due.bad(3, "person abcdef 1 1 1;person ^abcdef 1 1 1;");
        Due.good("person abcdef 1 1 1;person abcde 1 1 1;person abcdeg 1 1 1;person bcdef 1 1 1;person a 1 1 1;");
        Due.good("person a 1 1 1;person aa 1 1 1;person aaa 1 1 1;person b 1 1 1;");
    }

    private static void claimsToldAlready() {
        Due.by("a CLAIM of the same PERSON (at W)");
        Due.good(AB + "claim a 1;claim b 1;");
        Due.bad(3, AB + "claim a 1;claim b 1;claim ^a 1;");
        Due.bad(3, AB + "claim a 1;claim ^a");
    }

    private static void ratesToldAlready() {
        Due.by("a RATE of the same two GOODS (at the second SIDE)");
        for (int i = 0; i < 6; i++) for (int j = 0; j < 6; j++) if (i != j) {
            String[] other = GOODS[j].split(" ");
            String first = "swap " + GOODS[i] + " 1 " + GOODS[j] + " 1;";
            Due.good(first + "swap " + GOODS[j] + " 1 " + GOODS[i] + " 1;");
            Due.bad(3, first + "swap " + GOODS[i] + " 2 " + other[0] + " ^" + other[1] + " 3;");
            Due.bad(3, first + "swap " + GOODS[i] + " 2 " + other[0] + " ^" + other[1]);
        }
    }

    private static void eachTwoOnceInThatOrder() {
        Due.by("(each two once in that order)");
        Due.good("swap boot left 1 felt left 1;swap felt left 1 boot left 1;");
        Due.bad(3, "swap boot left 1 felt left 1;swap felt left 1 boot left 1;swap felt left 1 boot ^left 1;");
        Due.bad(3, "swap boot left 1 felt left 1;swap felt left 1 boot left 1;swap boot left 1 felt ^left 1;");
    }

    private static void seedToldAlready() {
        Due.by("seed (at the word)");
        Due.good("seed 0;");
        Due.bad(3, "seed 0;^seed 0;");
        Due.bad(3, "seed 0;^seed");
        LeftShoes x = Due.told("seed 1;");
        Due.is("once in each text", Due.tell(x, "seed 2;"), 1);
    }

    private static void lawToldAlready() {
        Due.by("a law of its RULE (at RULE).");
        Due.good("law worth 1;law pair 1;law wear 1;");
        for (String rule : List.of("worth", "pair", "wear")) {
            Due.bad(3, "law " + rule + " 1;law ^" + rule + " 1;");
            Due.bad(3, "law worth 1;law pair 1;law wear 1;law ^" + rule);
        }
        LeftShoes x = Due.told("law worth 1;");
        Due.is("once in each text", Due.tell(x, "law worth 1;"), 1);
    }

    private static void personsNotToldAhead() {
        Due.by("4 a PERSON that isn't told ahead (at W).");
        Due.good(AB + "shoe left 1 1 boot a;debt a b 1 1;claim a 1;");
        Due.bad(4, AB + "shoe left 1 1 boot ^c;");
        Due.bad(4, AB + "debt ^c b 1 1;");
        Due.bad(4, AB + "debt a ^c 1 1;");
        Due.bad(4, AB + "claim ^c 1;");
        Due.bad(4, "claim ^a 1;" + A);
        Due.bad(4, "debt ^a b 1 1;" + AB);
        Due.bad(4, A + "debt a ^b 1 1;person b 1 1 1;");
        Due.bad(4, "shoe left 1 1 boot ^a;" + A);
        Due.bad(4, "person ab 1 1 1;claim ^a 1;");
        Due.bad(4, A + "claim ^ab 1;");
        LeftShoes x = Due.told(A);
        Due.is("told in a former text alone", Due.tell(x, "claim a 1;"), -1);
        Due.is("fault", x.fault(0), 4);
    }

    private static void debtsToOneself() {
        Due.by("5 a DEBT to oneself (at the second W)");
        Due.bad(5, AB + "debt a ^a 1 1;");
        Due.bad(5, AB + "debt b ^b 1 1;");
        Due.bad(5, AB + "debt b ^b");
        Due.good(AB + "debt a b 1 1;debt b a 1 1;");
    }

    private static void ratesForItself() {
        Due.by("a RATE of a GOOD for itself (at the second SIDE).");
        for (int i = 0; i < 6; i++) for (int j = 0; j < 6; j++) {
            String[] other = GOODS[j].split(" ");
            if (i == j) Due.bad(5, "swap " + GOODS[i] + " 1 " + other[0] + " ^" + other[1] + " 1;");
            else Due.good("swap " + GOODS[i] + " 1 " + GOODS[j] + " 1;");
        }
        Due.bad(5, "swap boot left 1 boot ^left");
    }
}
