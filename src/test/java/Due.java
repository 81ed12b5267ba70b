import java.nio.charset.StandardCharsets;

/** What the tests share: objects with a text told, and answers held against those that are due. */
final class Due {
    private static int wrong = 0;
    private static int asked = 0;

    private Due() { }

    static void is(String what, long got, long want) {
        asked++;
        if (got != want) {
            wrong++;
            System.out.println(what + " answered " + got + ", due is " + want);
        }
    }

    static void is(String what, boolean got, boolean want) {
        is(what, got ? 1 : 0, want ? 1 : 0);
    }

    static void end() {
        System.out.println(wrong == 0 ? asked + " answers are as due" : wrong + " of " + asked + " answers are not as due");
        if (wrong != 0) System.exit(1);
    }

    /** Puts the text on the tape, blanks behind it up to the next twenty bytes. */
    static void feed(LeftShoes x, String text) {
        byte[] b = text.getBytes(StandardCharsets.ISO_8859_1);
        for (int i = 0; i < b.length; i += 20) {
            int[] v = new int[5];
            for (int k = 0; k < 20; k++) v[k / 4] = v[k / 4] << 8 | (i + k < b.length ? b[i + k] & 255 : 32);
            x.feed(v[0], v[1], v[2], v[3], v[4]);
        }
    }

    static int tell(LeftShoes x, String text) {
        feed(x, text);
        return x.text(text.length());
    }

    static LeftShoes told(String text) {
        LeftShoes x = new LeftShoes();
        if (tell(x, text) < 0) is("text \"" + text + "\" has fault " + x.fault(0) + " at " + x.fault(1) + ": it", -1, 0);
        return x;
    }

    /** That the text has this fault at this place, and that nothing of it stands. */
    static void fault(String text, int fault, int place) {
        LeftShoes x = new LeftShoes();
        is("text \"" + text + "\"", tell(x, text), -1);
        is("fault of \"" + text + "\"", x.fault(0), fault);
        is("place in \"" + text + "\"", x.fault(1), place);
        is("persons of \"" + text + "\"", x.count(0), 0);
        is("shoes of \"" + text + "\"", x.count(1), 0);
    }

    static void sound(String text, int lines) {
        LeftShoes x = new LeftShoes();
        is("text \"" + text + "\"", tell(x, text), lines);
        is("fault of \"" + text + "\"", x.fault(0), 0);
        is("place in \"" + text + "\"", x.fault(1), -1);
    }
}
