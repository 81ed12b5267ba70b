/** Promises 26 to 30: tracks, strikes, known, who, tells. */
public final class TracksTest {
    private static final String LAND = "person a 8 0 0;person b 9 0 0;person c 8 0 0;shoe left 9 0 boot a;shoe right 5 0 boot a;shoe left 8 0 boot c;";

    public static void main(String[] args) {
        tracks();
        who();
        strikes();
        known();
        tells();
        Due.end();
    }

    private static void tracks() {
        LeftShoes x = Due.told(LAND);
        Due.is("side -1", x.track(-1, 5), -1);
        Due.is("side 2", x.track(2, 5), -1);
        Due.is("size 0", x.track(0, 0), -1);
        Due.is("size 21", x.track(0, 21), -1);
        Due.is("strike of none", x.strike(0), -1);
        Due.is("none came", x.count(11), 0);
        Due.is("first", x.track(0, 1), 0);
        Due.is("second", x.track(1, 20), 1);
        Due.is("strike", x.strike(0), 2);
        Due.is("strike of a strike", x.strike(2), 3);
        Due.is("strike of one to come", x.strike(4), -1);
        Due.is("strike below 0", x.strike(-1), -1);
        for (int i = 4; i < 24; i++) Due.is("track " + i, i % 2 == 0 ? x.track(0, 3) : x.strike(i - 1), i);
        Due.is("a 25th", x.track(0, 3), -1);
        Due.is("a 25th strike", x.strike(0), -1);
        Due.is("24", x.count(11), 24);
    }

    private static void who() {
        LeftShoes x = Due.told(LAND);
        Due.is("without tracks all", x.who(), 0b111);
        x.track(0, 8);
        Due.is("feet", x.who(), 0b101);
        x.on(0);
        Due.is("a wears 9", x.who(), 0b100);
        x.on(2);
        Due.is("c wears 8", x.who(), 0b100);
        x.track(1, 8);
        Due.is("bare on the right", x.who(), 0b100);
        x = Due.told(LAND);
        x.on(0);
        x.track(0, 9);
        Due.is("worn, and foot", x.who(), 0b011);
        x.track(1, 8);
        Due.is("bare right foot of a", x.who(), 0b001);
        x.on(1);
        Due.is("it wears 5 now", x.who(), 0);
        x.off(1);
        x.off(0);
        Due.is("no left 9 now", x.who(), 0);
        Due.is("without persons", new LeftShoes().who(), 0);
    }

    private static void strikes() {
        LeftShoes x = Due.told(LAND);
        x.track(0, 8);
        x.track(0, 9);
        Due.is("nobody", x.who(), 0);
        x.strike(0);
        Due.is("the first is struck", x.who(), 0b010);
        x.strike(2);
        Due.is("the strike is struck", x.who(), 0);
        x.strike(3);
        Due.is("the strike of the strike is struck", x.who(), 0b010);
        x.strike(1);
        Due.is("both are struck", x.who(), 0b111);
        x.strike(5);
        x.strike(5);
        Due.is("struck twice", x.who(), 0b010);
        x.strike(6);
        Due.is("one of the two strikes doesn't count", x.who(), 0b010);
        x.strike(7);
        Due.is("neither counts", x.who(), 0b111);
    }

    private static void known() {
        LeftShoes x = Due.told(LAND);
        Due.is("by 1 of none", x.known(1), false);
        Due.is("by 0 of none", x.known(0), true);
        Due.is("below -1", x.known(-2), false);
        x.track(0, 8);
        Due.is("none is known", x.who(), 0b111);
        Due.is("by how many", x.count(12), 0);
        Due.is("by one", x.known(1), true);
        x.strike(0);
        Due.is("a strike that isn't known", x.who(), 0b101);
        Due.is("by how many", x.count(12), 1);
        Due.is("by two", x.known(2), true);
        Due.is("it is known", x.who(), 0b111);
        Due.is("by three of two", x.known(3), false);
        Due.is("that stays", x.count(12), 2);
        x.track(0, 9);
        Due.is("still by two", x.who(), 0b111);
        Due.is("by all", x.known(-1), true);
        Due.is("all", x.who(), 0b010);
        Due.is("all are three", x.count(12), 3);
        x.track(0, 1);
        Due.is("those to come, too", x.who(), 0);
        Due.is("all are four", x.count(12), 4);
    }

    private static void tells() {
        LeftShoes x = Due.told(LAND);
        Due.is("side", x.tells(0), 0);
        Due.is("size", x.tells(1), 9);
        Due.is("how many", x.tells(2), 1);
        Due.is("what 3", x.tells(3), -1);
        Due.is("what -1", x.tells(-1), -1);
        x.on(1);
        Due.is("a right 5 tells a, but left 9 comes first", x.tells(1), 9);
        x.on(0);
        Due.is("left 8 tells c now", x.tells(1), 8);
        x.track(0, 9);
        Due.is("of a and b the right side", x.tells(0), 1);
        Due.is("of a and b", x.tells(1), 5);
        Due.is("one", x.tells(2), 1);
        x.track(0, 1);
        Due.is("nobody is left", x.tells(0), -2);
        Due.is("nobody is left to size", x.tells(1), -2);
        Due.is("nobody is left to count", x.tells(2), -2);
        Due.is("another what then, too", x.tells(3), -1);
        x.known(0);
        Due.is("of those known", x.tells(1), 8);
        x = Due.told("person a 7 0 0;person b 7 0 0;");
        Due.is("both", x.tells(2), 2);
        Due.is("both by left", x.tells(0), 0);
        Due.is("both by 7", x.tells(1), 7);
        for (int i = 0; i < 24; i++) x.track(1, 7);
        Due.is("one more though there are 24", x.tells(2), 2);
        Due.is("without persons", new LeftShoes().tells(0), -2);
    }
}
