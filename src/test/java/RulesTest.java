import java.io.IOException;
import java.lang.management.ManagementFactory;
import java.nio.file.Files;
import java.nio.file.Path;
import java.util.List;
import java.util.regex.Matcher;
import java.util.regex.Pattern;

/** What of LANGUAGE.md can be seen from the source's words, and that calls make next to nothing. */
public final class RulesTest {
    private static final List<String> BARRED = List.of("->", "::", "catch", "finally", "synchronized", "assert", "lambda",
        "package ", "protected ", "Exact(", "double", "float", "Thread", "Random", "volatile", "var ", "record ", "System.out",
        "System.nano", "System.current", "hashCode", ".getMessage", "instanceof", "String.", "Object", "List");
    private static final int MOST_LINES = 60;
    private static final int MOST_CLASSES = 12;
    private static final int MOST_PARAMETERS = 7;
    private static final int MOST_FIELDS = 20;

    public static void main(String[] args) throws IOException {
        String source = Files.readString(Path.of(System.getProperty("leftshoes.source", "src/main/java/LeftShoes.java")));
        words(source);
        methods(source);
        classes();
        room();
        Due.end();
    }

    private static String bare(String source) {
        return source.replaceAll("(?s)/\\*.*?\\*/", "").replaceAll("//[^\n]*", "").replaceAll("\"[^\"\n]*\"", "\"\"");
    }

    private static void words(String source) {
        String bare = bare(source);
        for (String word : BARRED) Due.is("barred: " + word, bare.contains(word), false);
        Matcher imports = Pattern.compile("import [^;]*;").matcher(bare);
        while (imports.find()) Due.is(imports.group(), imports.group().equals("import java.util.NoSuchElementException;"), true);
        Matcher library = Pattern.compile("(Math|Integer|Long|System|Arrays)\\.(\\w+)").matcher(bare);
        List<String> allowed = List.of("Math.max", "Math.min", "Math.abs", "Integer.bitCount", "Integer.MAX_VALUE", "Long.MIN_VALUE", "System.arraycopy");
        while (library.find()) Due.is("library: " + library.group(), allowed.contains(library.group()), true);
        Matcher thrown = Pattern.compile("throw [^;]*;").matcher(bare);
        while (thrown.find()) Due.is(thrown.group(), thrown.group().matches("throw new (IndexOutOfBounds|NoSuchElement)Exception\\(\"\"\\);"), true);
        Due.is("joined texts", Pattern.compile("\"\" *\\+|\\+ *\"\"").matcher(bare).find(), false);
        for (int i = 0; i < source.length(); i++) if (source.charAt(i) > 126) Due.is("sign above 126 at " + i, false, true);
    }

    // A method's head is a line of four or eight blanks that ends with ") {" or with the exceptions' names.
    private static void methods(String source) {
        String[] lines = source.split("\n");
        Pattern head = Pattern.compile("( {4}| {8})(?! )(?!if|for|while|switch|else|do|\\}|return)[\\w\\[\\]<> ]*\\(([^()]*)\\)[\\w, ]* \\{");
        int found = 0;
        for (int i = 0; i < lines.length; i++) {
            Matcher m = head.matcher(lines[i]);
            if (!m.matches()) continue;
            found++;
            int end = i;
            while (end < lines.length && !lines[end].equals(m.group(1) + "}")) end++;
            Due.is("lines of " + lines[i].trim(), end - i + 1 <= MOST_LINES, true);
            Due.is("parameters of " + lines[i].trim(), m.group(2).split(",").length <= MOST_PARAMETERS, true);
        }
        Due.is("methods were found", found > 100, true);
    }

    private static void classes() {
        Class<?>[] inside = LeftShoes.class.getDeclaredClasses();
        Due.is("classes", inside.length + 1 <= MOST_CLASSES, true);
        for (Class<?> c : inside) {
            int fields = 0;
            for (java.lang.reflect.Field f : c.getDeclaredFields()) {
                if (!java.lang.reflect.Modifier.isStatic(f.getModifiers())) fields++;
            }
            Due.is("fields of " + c.getName() + ": " + fields + " at most " + MOST_FIELDS, fields <= MOST_FIELDS, true);
        }
    }

    private static void room() {
        com.sun.management.ThreadMXBean bean = (com.sun.management.ThreadMXBean) ManagementFactory.getThreadMXBean();
        if (!bean.isThreadAllocatedMemorySupported()) return;
        StringBuilder s = new StringBuilder("person a 8 30 3;person b 9 30 5;law worth size*3-used/5;");
        for (int i = 0; i < 16; i++) s.append("shoe ").append(i % 2 == 0 ? "left" : "right").append(" 8 ").append(i).append(" boot ").append(i < 9 ? "a;" : "b;");
        for (int i = 0; i < 8; i++) s.append("debt a b ").append(20 + i).append(' ').append(i).append(';');
        String text = s.toString();
        long[] used = new long[2];
        for (int round = 0; round < 2; round++) {
            long start = bean.getThreadAllocatedBytes(Thread.currentThread().getId());
            LeftShoes x = new LeftShoes();
            used[round] = bean.getThreadAllocatedBytes(Thread.currentThread().getId()) - start;
        }
        Due.is("bytes of a new object: " + used[1], used[1] < 100_000, true);
        LeftShoes x = Due.told(text);
        long made = 0;
        for (int round = 0; round < 2; round++) {
            long start = bean.getThreadAllocatedBytes(Thread.currentThread().getId());
            dearCalls(x);
            made = bean.getThreadAllocatedBytes(Thread.currentThread().getId()) - start;
        }
        Due.is("bytes that calls make: " + made, made < 2_000, true);
    }

    private static int sink = 0;

    private static void dearCalls(LeftShoes x) {
        x.on(0);
        x.on(1);
        for (int i = 0; i < 8; i++) {
            sink += x.chance(i, 30, 0, 50) + x.tried(4, 0, 50) + x.mint(40, 5) + x.walk(0, 8, 1) + x.pairs() + x.partner(3) + x.change(0, 999)
                + x.rests(0, 9) + x.run(0) + x.save(0) + x.track(0, 8) + x.who() + x.tells(2) + x.ring() + x.good(0) + x.keep() + x.back()
                + x.pay(0, 1, 24) + x.undo() + x.count(8) + (x.give(2, -1) ? 1 : 0) + x.undo() + x.days(0) + x.person(0, 2) + x.shoe(0, 5);
            sink += x.feed(0x73656564, 0x20313b20, 0, 0, 0) + x.text(30);
        }
    }
}
