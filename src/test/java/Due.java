import java.io.IOException;
import java.lang.reflect.InvocationTargetException;
import java.lang.reflect.Method;
import java.lang.reflect.Modifier;
import java.nio.charset.StandardCharsets;
import java.nio.file.Files;
import java.nio.file.Path;
import java.util.ArrayList;
import java.util.Comparator;
import java.util.List;

/** What the tests share: objects with a text told, and answers held against those that are due. */
final class Due {
    private static int wrong = 0;
    private static int asked = 0;
    private static String sentence = "";
    private static String document = null;

    private Due() { }

    static void is(String what, long got, long want) {
        asked++;
        if (got != want) {
            wrong++;
            System.out.println((sentence.isEmpty() ? "" : "[" + sentence + "] ") + what + " answered " + got + ", due is " + want);
        }
    }

    static void is(String what, boolean got, boolean want) {
        is(what, got ? 1 : 0, want ? 1 : 0);
    }

    static void same(String what, String got, String want) {
        is(what + (got.equals(want) ? "" : ": " + got + " instead of " + want + ", alike"), got.equals(want), true);
    }

    static void end() {
        System.out.println(wrong == 0 ? asked + " answers are as due" : wrong + " of " + asked + " answers are not as due");
        if (wrong != 0) System.exit(1);
    }

    // ---- tests that hold one sentence of the document each

    /** Runs every method of the class without arguments (but main), each of which says by which sentence it asks. */
    static void each(Class<?> tests) {
        List<Method> methods = new ArrayList<>(List.of(tests.getDeclaredMethods()));
        methods.sort(Comparator.comparing(Method::getName));
        int held = 0;
        for (Method m : methods) {
            if (m.isSynthetic() || !Modifier.isStatic(m.getModifiers()) || m.getParameterCount() != 0 || m.getReturnType() != void.class) continue;
            sentence = "";
            int before = asked;
            try {
                m.setAccessible(true);
                m.invoke(null);
            } catch (IllegalAccessException | InvocationTargetException e) {
                System.out.println(m.getName() + ": " + (e.getCause() == null ? e : e.getCause()));
                is(m.getName() + " comes to its end", false, true);
            }
            is(m.getName() + " names its sentence", sentence.isEmpty(), false);
            is(m.getName() + " asks something", asked > before + 2, true);
            held++;
        }
        sentence = "";
        System.out.println(held + " sentences of the document are held");
        end();
    }

    /** By which words of the document the answers that follow are due; they must stand there just so. */
    static void by(String words) {
        sentence = words;
        if (document == null) document = readDocument();
        if (!document.isEmpty()) is("words that the document has", document.contains(words), true);
    }

    private static String readDocument() {
        Path path = Path.of(System.getProperty("leftshoes.doc", "../shared/DOC.md"));
        try {
            return Files.isReadable(path) ? Files.readString(path).replaceAll("\\s+", " ") : "";
        } catch (IOException e) {
            return "";
        }
    }

    // ---- texts

    /** Puts the text on the tape, blanks behind it up to the next twenty bytes. */
    static void feed(LeftShoes x, String text) {
        byte[] b = text.getBytes(StandardCharsets.ISO_8859_1);
        for (int i = 0; i < b.length; i += 20) {
            int[] v = new int[5];
            for (int k = 0; k < 20; k++) v[k / 4] = v[k / 4] << 8 | (i + k < b.length ? b[i + k] & 255 : 32);
            x.feed(v[0], v[1], v[2], v[3], v[4]);
        }
    }

    static int tell(LeftShoes x, String text) {
        feed(x, text);
        return x.text(text.length());
    }

    static LeftShoes told(String text) {
        LeftShoes x = new LeftShoes();
        if (tell(x, text) < 0) is("text \"" + text + "\" has fault " + x.fault(0) + " at " + x.fault(1) + ": it", -1, 0);
        return x;
    }

    /** That the text has this fault at this place, and that nothing of it stands. */
    static void fault(String text, int fault, int place) {
        LeftShoes x = new LeftShoes();
        is("text \"" + text + "\"", tell(x, text), -1);
        is("fault of \"" + text + "\"", x.fault(0), fault);
        is("place in \"" + text + "\"", x.fault(1), place);
        is("persons of \"" + text + "\"", x.count(0), 0);
        is("shoes of \"" + text + "\"", x.count(1), 0);
    }

    /** That the text has this fault where the sign ^ stands in it (the sign itself is not told). */
    static void bad(int fault, String marked) {
        int place = marked.indexOf('^');
        fault(marked.substring(0, place) + marked.substring(place + 1), fault, place);
    }

    static void sound(String text, int lines) {
        LeftShoes x = new LeftShoes();
        is("text \"" + text + "\"", tell(x, text), lines);
        is("fault of \"" + text + "\"", x.fault(0), 0);
        is("place in \"" + text + "\"", x.fault(1), -1);
    }

    /** That the text is sound, with as many lines as semicolons. */
    static void good(String text) {
        sound(text, (int) text.chars().filter(c -> c == ';').count());
    }

    // ---- objects

    static void pass(LeftShoes x, int days) {
        for (int left = days; left > 0; left -= 50) x.days(Math.min(50, left));
    }

    /** 1 IndexOutOfBoundsException, 2 NoSuchElementException, 0 none. */
    static int thrown(LeftShoes x, int shoe, int what) {
        try {
            x.shoe(shoe, what);
        } catch (IndexOutOfBoundsException e) {
            return 1;
        } catch (java.util.NoSuchElementException e) {
            return 2;
        }
        return 0;
    }

    /** All that calls can change but the tape and the fault, in one text. */
    static String standing(LeftShoes x) {
        StringBuilder b = new StringBuilder();
        for (int what = 0; what <= 13; what++) b.append(x.count(what)).append(' ');
        for (int shoe = 0; shoe < x.count(1); shoe++) b.append("| ").append(x.shoe(shoe, 2)).append(' ').append(x.shoe(shoe, 4)).append(' ').append(x.shoe(shoe, 6)).append(' ');
        for (int person = 0; person < x.count(0); person++) b.append("# ").append(x.person(person, 0)).append(' ').append(x.person(person, 1)).append(' ');
        for (int debt = 0; debt < x.count(2); debt++) b.append("$ ").append(x.debt(debt, 4)).append(' ');
        return b.append("who ").append(x.who()).toString();
    }
}
