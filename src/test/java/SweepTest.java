import java.lang.reflect.InvocationTargetException;
import java.lang.reflect.Method;
import java.util.ArrayList;
import java.util.Arrays;
import java.util.List;
import java.util.NoSuchElementException;

/**
 * Every call of the face with every argument below, at and above its bounds, in all combinations, on lands that are empty,
 * small, full, worn and late: held against PlainLand, together with all that stands behind the call.
 */
public final class SweepTest {
    private static final int LEAST = Integer.MIN_VALUE;
    private static final int MOST = Integer.MAX_VALUE;
    // An object is good for 512 calls; the rest is for how it stands then.
    private static final int CALLS = 300;

    private static final String SMALL = "person a 8 20 3;person b 9 50 5;shoe left 7 0 boot a;shoe right 7 0 boot b;shoe right 9 0 boot b;"
        + "shoe left 2 0 boot b;shoe left 1 0 felt bank;debt a b 14 2;claim a 2;swap boot left 1 felt left 2;swap felt left 1 boot left 1;law pair 9-left;";

    private static LeftShoes mine;
    private static PlainLand plain;
    private static final List<String> told = new ArrayList<>();

    public static void main(String[] args) {
        List<String[]> lands = List.of(
            new String[] {""},
            new String[] {SMALL},
            new String[] {SMALL, "on 0", "on 1", "on 3", "track 0 8", "track 1 7", "strike 0", "keep", "give 4 0"},
            new String[] {SMALL, "on 0", "on 2", "days 50", "on 1", "days 49", "track 0 2", "known 0", "pay 1 0 9"},
            new String[] {full(), "on 0", "on 5", "on 1", "on 6", "on 9", "on 14", "keep", "days 1"},
            new String[] {late(949), "on 0"},
            new String[] {late(950)},
            new String[] {late(969)},
            new String[] {late(970)},
            new String[] {late(998), "keep"},
            new String[] {late(999)},
            new String[] {many()});
        begin(List.of(full()));
        Due.is("five persons", plain.count(0), 5);
        Due.is("sixteen shoes", plain.count(1), 16);
        Due.is("eight debts", plain.count(2), 8);
        for (String[] land : lands) {
            List<String> steps = steps(land);
            asks(steps);
            changes(steps);
        }
        Due.end();
    }

    // Five persons, sixteen shoes, eight debts, five claims: as many as there may be.
    private static String full() {
        StringBuilder b = new StringBuilder();
        for (int i = 0; i < 5; i++) b.append("person ").append((char) ('a' + i)).append(' ').append(5 + i % 2).append(" 99 ").append(i).append(';');
        for (int i = 0; i < 16; i++) b.append(i < 5 || i > 12 ? "shoe right " : "shoe left ").append(5 + i % 3).append(' ').append(i == 15 ? 49 : 40).append(" boot ").append((char) ('a' + i % 5)).append(';');
        for (int i = 0; i < 8; i++) b.append("debt ").append((char) ('a' + i % 5)).append(' ').append((char) ('a' + (i + 1) % 5)).append(i % 2 == 0 ? " 4 " : " 5 ").append(i / 3).append(';');
        for (int i = 0; i < 5; i++) b.append("claim ").append((char) ('a' + i)).append(' ').append(i + 1).append(';');
        return b.append("law worth size-1+used/50;law wear 4+foot;").toString();
    }

    private static String late(int day) {
        StringBuilder b = new StringBuilder(SMALL);
        for (int left = day; left > 0; left -= 50) b.append("|days ").append(Math.min(50, left));
        return b.toString();
    }

    // As many tracks as there may be, and more that can be undone than there may be.
    private static String many() {
        StringBuilder b = new StringBuilder(SMALL);
        for (int i = 0; i < 24; i++) b.append(i % 3 == 2 ? "|strike " + (i - 1) : "|track " + i % 2 + " " + (i % 5 + 6));
        for (int i = 0; i < 23; i++) b.append("|give 4 ").append(i % 3 - 1 == -1 ? 0 : i % 3 - 1 == 0 ? 1 : -1);
        return b.toString();
    }

    private static List<String> steps(String[] land) {
        List<String> steps = new ArrayList<>(List.of(land[0].split("\\|")));
        steps.addAll(List.of(land).subList(1, land.length));
        return steps;
    }

    private static void begin(List<String> steps) {
        mine = new LeftShoes();
        plain = new PlainLand();
        told.clear();
        tell(steps.get(0));
        for (String step : steps.subList(1, steps.size())) {
            String[] words = step.split(" ");
            int[] values = new int[words.length - 1];
            for (int i = 0; i < values.length; i++) values[i] = Integer.parseInt(words[i + 1]);
            call(words[0], values);
        }
    }

    private static void tell(String text) {
        for (int i = 0; i < text.length(); i += 20) {
            int[] v = new int[5];
            for (int k = 0; k < 20; k++) v[k / 4] = v[k / 4] << 8 | (i + k < text.length() ? text.charAt(i + k) : 32);
            call("feed", v);
        }
        call("text", text.length());
        Due.is("fault of \"" + text + "\"", plain.fault(0), 0);
    }

    // ---- one call on both

    private static long answer(Object land, String name, int[] values) {
        Class<?>[] types = new Class<?>[values.length];
        Arrays.fill(types, int.class);
        try {
            Method m = land.getClass().getDeclaredMethod(name, types);
            m.setAccessible(true);
            Object[] boxed = new Object[values.length];
            for (int i = 0; i < boxed.length; i++) boxed[i] = values[i];
            Object got = m.invoke(land, boxed);
            return got instanceof Boolean b ? (b ? 1 : 0) : ((Number) got).longValue();
        } catch (InvocationTargetException e) {
            // The machine's own exceptions are none of those that the document names.
            Class<?> thrown = e.getCause().getClass();
            return thrown == IndexOutOfBoundsException.class ? -1001 : thrown == NoSuchElementException.class ? -1002 : land == mine ? -1003 : -1004;
        } catch (ReflectiveOperationException e) {
            throw new IllegalStateException(e);
        }
    }

    private static void call(String name, int... values) {
        told.add(name + Arrays.toString(values));
        Due.is(name + Arrays.toString(values) + " behind " + told.subList(Math.max(0, told.size() - 12), told.size() - 1), answer(mine, name, values), answer(plain, name, values));
    }

    private static void standing() {
        for (int what = 0; what <= 13; what++) call("count", what);
        for (int shoe = 0; shoe < plain.count(1); shoe++) for (int what : new int[] {2, 4, 6}) call("shoe", shoe, what);
        for (int person = 0; person < plain.count(0); person++) for (int what : new int[] {0, 1, 4}) call("person", person, what);
        for (int debt = 0; debt < plain.count(2); debt++) call("debt", debt, 4);
        call("who");
        call("fault", 0);
        call("fault", 1);
    }

    // ---- all combinations

    private interface Combination { void of(int[] values); }

    private static void each(int[][] choices, Combination then) {
        int[] at = new int[choices.length];
        int[] values = new int[choices.length];
        while (true) {
            for (int i = 0; i < values.length; i++) values[i] = choices[i][at[i]];
            then.of(values.clone());
            int i = 0;
            while (i < at.length && ++at[i] == choices[i].length) at[i++] = 0;
            if (i == at.length) return;
        }
    }

    /** Below, at and above both bounds, and the farthest there are. */
    private static int[] around(int least, int most) {
        return Arrays.stream(new int[] {LEAST, least - 2, least - 1, least, least + 1, most - 1, most, most + 1, most + 2, MOST}).distinct().toArray();
    }

    private static int[] edges(int least, int most) {
        return Arrays.stream(new int[] {least - 1, least, most, most + 1}).distinct().toArray();
    }

    private static int[] upTo(int least, int most) {
        int[] v = new int[most - least + 1];
        for (int i = 0; i < v.length; i++) v[i] = least + i;
        return v;
    }

    private static void ask(List<String> steps, String name, int[]... choices) {
        int[] made = {CALLS};
        each(choices, values -> {
            if (made[0]++ >= CALLS) {
                begin(steps);
                made[0] = 0;
            }
            call(name, values);
        });
    }

    private static void asks(List<String> steps) {
        begin(steps);
        int persons = plain.count(0), shoes = plain.count(1), debts = plain.count(2);
        int[] person = around(0, persons - 1), shoe = around(0, shoes - 1);
        ask(steps, "fault", around(0, 1));
        ask(steps, "named", new int[] {LEAST, -1, 0, 1, 1 << 25, 2 << 25, 5 << 25, 6 << 25, 1 << 25 | 1, 1 << 30, MOST});
        ask(steps, "shoe", shoe, around(0, 6));
        ask(steps, "shoe", upTo(0, shoes), upTo(0, 6));
        ask(steps, "person", person, around(0, 4));
        ask(steps, "person", upTo(0, persons), upTo(0, 4));
        ask(steps, "debt", around(0, debts - 1), around(0, 4));
        ask(steps, "pair", upTo(-1, shoes), upTo(-1, shoes));
        ask(steps, "pair", shoe, shoe);
        ask(steps, "law", upTo(-1, 3), upTo(-1, shoes), edges(0, shoes - 1));
        ask(steps, "law", around(0, 2), new int[] {0, LEAST, MOST}, new int[] {0, LEAST, MOST});
        ask(steps, "refused");
        ask(steps, "change", person, new int[] {LEAST, -1, 0, 1, 2, 4, 7, 9, 11, 14, 15, 9998, 9999, 10000, 10001, MOST});
        ask(steps, "mint", edges(1, 40), edges(1, 5));
        ask(steps, "mint", new int[] {LEAST, 3, MOST}, new int[] {LEAST, 2, MOST});
        ask(steps, "pairs");
        ask(steps, "partner", upTo(-2, shoes + 1));
        ask(steps, "walk", edges(0, persons - 1), edges(1, 8), edges(0, 1));
        ask(steps, "walk", new int[] {LEAST, 0, MOST}, new int[] {LEAST, 3, MOST}, new int[] {LEAST, 1, MOST});
        ask(steps, "rests", upTo(-1, shoes), upTo(-1, shoes));
        ask(steps, "rest", edges(0, shoes - 1), upTo(-1, shoes), new int[] {LEAST, -1, 0, 1, 8, 9, 99, 100, MOST});
        ask(steps, "run", upTo(-2, (1 << persons) + 1));
        ask(steps, "save", upTo(-2, (1 << persons) + 1));
        ask(steps, "run", new int[] {LEAST, LEAST + 1, 1 << 30, MOST, 63, 64});
        ask(steps, "save", new int[] {LEAST, LEAST + 1, 1 << 30, MOST, 63, 64});
        ask(steps, "who");
        ask(steps, "tells", around(0, 2));
        ask(steps, "ring");
        ask(steps, "good", around(0, 5));
        ask(steps, "good", upTo(0, 5));
        ask(steps, "chance", new int[] {LEAST, -1, 0, MOST}, edges(1, 30), edges(0, persons - 1), edges(0, 9999));
        ask(steps, "chance", new int[] {5, MOST - 1}, new int[] {LEAST, 2, 20, 21, 29, MOST}, new int[] {LEAST, 0, MOST}, new int[] {LEAST, 1, 14, MOST});
        ask(steps, "tried", around(0, 4), edges(0, Math.max(persons, shoes) - 1), edges(0, 50));
        ask(steps, "tried", upTo(0, 4), upTo(-1, 5), new int[] {LEAST, 1, 2, 30, 49, MOST});
        ask(steps, "count", around(0, 13));
        standing();
    }

    private static void changed(List<String> steps, String name, int[]... choices) {
        each(choices, values -> {
            begin(steps);
            call(name, values);
            standing();
            call("undo");
            standing();
        });
    }

    private static void changes(List<String> steps) {
        begin(steps);
        int persons = plain.count(0), shoes = plain.count(1), tracks = plain.count(11);
        changed(steps, "pay", edges(0, persons - 1), edges(0, persons - 1), new int[] {0, 1, 4, 9, 14, 9999, 10000});
        changed(steps, "pay", new int[] {LEAST, MOST}, new int[] {0, LEAST, MOST}, new int[] {LEAST, 14, MOST});
        changed(steps, "give", upTo(-1, shoes), upTo(-3, persons));
        changed(steps, "give", new int[] {LEAST, 0, MOST}, new int[] {LEAST, 0, MOST});
        changed(steps, "on", upTo(-1, shoes));
        changed(steps, "off", upTo(-1, shoes));
        changed(steps, "on", new int[] {LEAST, MOST, 16});
        changed(steps, "off", new int[] {LEAST, MOST, 16});
        changed(steps, "days", new int[] {LEAST, -1, 0, 1, 2, 29, 30, 49, 50, 51, 52, MOST});
        changed(steps, "track", around(0, 1), around(1, 20));
        changed(steps, "strike", around(0, tracks - 1));
        changed(steps, "known", around(-1, tracks));
        changed(steps, "keep");
        changed(steps, "back");
        changed(steps, "undo");
        changed(steps, "text", new int[] {LEAST, -1, 0, 1, 20, 700, 701, MOST});
    }
}
