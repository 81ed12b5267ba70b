import java.util.NoSuchElementException;

/** A land where shoes are money: told as a text, lived by days, asked by calls. */
public final class LeftShoes {
    public static final int NONE = -1;

    private static final int NOT_SO = -2;
    private static final int AT_BANK = -1;
    private static final int IN_GRAVE = -2;
    private static final long ERROR = Long.MIN_VALUE;

    private static final int MOST_BYTES = 700;
    private static final int BYTES_A_FEED = 20;
    private static final int MOST_PERSONS = 5;
    private static final int MOST_SHOES = 16;
    private static final int MOST_DEBTS = 8;
    private static final int MOST_RATES = 8;
    private static final int GOODS = 6;
    private static final int MOST_KNOTS = 64;
    private static final int MOST_OPEN = 8;
    private static final int MOST_TRACKS = 24;
    private static final int MOST_UNDONE = 20;
    private static final int MOST_SIZE = 20;
    private static final int MOST_PRICE = 9999;
    private static final int MOST_WORTH = 999;
    private static final int MOST_WEAR = 50;
    private static final int WORN_OUT = 50;
    private static final int MUD = 5;
    private static final int LAST_DAY = 999;
    private static final int MOST_DAYS = 50;
    private static final int MOST_WALK = 8;
    private static final int MOST_ASKED = 9;
    private static final int MINT_SIZES = 10;
    private static final int YEARS = 10;
    private static final long MOST_VALUE = 1000000000000L;

    private static final int RULES = 3;
    private static final int WORTH_RULE = 0;
    private static final int WEAR_RULE = 1;
    private static final int PAIR_RULE = 2;

    private static final int LEFT_SIDE = 0;
    private static final int RIGHT_SIDE = 1;

    private static final int TO_COME = 0;
    private static final int PAID = 1;
    private static final int REFUSED = 2;

    private static final int NOT_A_TOKEN_HERE = 1;
    private static final int TOO_MUCH = 2;
    private static final int TOLD_ALREADY = 3;
    private static final int NOT_TOLD = 4;
    private static final int TO_ITSELF = 5;

    // A word's place in this row is its token's number, so the rows of sides, kinds, rules and names stay together.
    private static final String LANGUAGE =
        "person shoe debt claim swap seed law left right boot sandal felt bank worth wear pair or and not size used sort steps day foot";
    private static final int WORDS = 25;
    private static final int MOST_LETTERS = 6;
    private static final int LETTER_BITS = 5;
    private static final int W_PERSON = 0;
    private static final int W_SHOE = 1;
    private static final int W_DEBT = 2;
    private static final int W_CLAIM = 3;
    private static final int W_SWAP = 4;
    private static final int W_SEED = 5;
    private static final int W_LAW = 6;
    private static final int W_LEFT = 7;
    private static final int W_RIGHT = 8;
    private static final int W_BOOT = 9;
    private static final int W_FELT = 11;
    private static final int W_BANK = 12;
    private static final int W_WORTH = 13;
    private static final int W_PAIR = 15;
    private static final int W_OR = 16;
    private static final int W_AND = 17;
    private static final int W_NOT = 18;
    private static final int W_SIZE = 19;
    private static final int W_FOOT = 24;
    private static final int FREE_WORD = 25;
    private static final int NUMBER = 26;
    private static final int SEMICOLON = 27;
    private static final int OPEN = 28;
    private static final int CLOSE = 29;
    private static final int LESS = 30;
    private static final int LESS_OR_SAME = 31;
    private static final int SAME = 32;
    private static final int UNLIKE = 33;
    private static final int MORE_OR_SAME = 34;
    private static final int MORE = 35;
    private static final int PLUS = 36;
    private static final int MINUS = 37;
    private static final int TIMES = 38;
    private static final int OVER = 39;
    private static final int END = 40;
    private static final int NO_TOKEN = 41;

    private static final int NAMES = 7;
    private static final int NAME_SIZE = 0;
    private static final int NAME_USED = 1;
    private static final int NAME_SORT = 2;
    private static final int NAME_STEPS = 3;
    private static final int NAME_DAY = 4;
    private static final int NAME_FOOT = 5;
    private static final int NAME_LEFT = 6;

    private final byte[] tape;
    private int taped;
    private Tale tale;
    private Tale spare;
    private final Scribe scribe;
    private int lastFault;
    private int lastPlace;
    private final World world;
    private final World image;
    private final World trial;
    private boolean kept;
    private final History history;
    private final Tracks tracks;
    private final Couples couples;
    private final Stroll stroll;
    private final int[] minted;

    public LeftShoes() {
        tape = new byte[MOST_BYTES];
        tale = new Tale();
        spare = new Tale();
        scribe = new Scribe(spare);
        lastPlace = NONE;
        int[] sums = new int[MOST_PRICE + 1];
        world = new World(tale, sums);
        image = new World(tale, sums);
        trial = new World(tale, sums);
        history = new History();
        tracks = new Tracks();
        couples = new Couples();
        stroll = new Stroll(world);
        minted = new int[MINT_SIZES];
    }

    public int feed(int a, int b, int c, int d, int e) {
        if (taped > MOST_BYTES - BYTES_A_FEED) {
            return NONE;
        }
        putBytes(a);
        putBytes(b);
        putBytes(c);
        putBytes(d);
        putBytes(e);
        return taped;
    }

    private void putBytes(int four) {
        for (int shift = 24; shift >= 0 && taped < tape.length; shift -= 8) {
            tape[taped] = (byte) (four >> shift);
            taped++;
        }
    }

    public int text(int n) {
        if (n < 0 || n > taped) {
            return NOT_SO;
        }
        taped = 0;
        boolean told = scribe.write(tape, n, spare);
        lastFault = scribe.fault;
        lastPlace = scribe.faultPlace;
        if (!told) {
            return NONE;
        }
        Tale former = tale;
        tale = spare;
        spare = former;
        world.begin(tale);
        tracks.clear();
        history.clear();
        kept = false;
        return scribe.lines;
    }

    public int fault(int what) {
        if (what == 0) {
            return lastFault;
        }
        return what == 1 ? lastPlace : NONE;
    }

    public int named(int letters) {
        return tale.personNamed(letters);
    }

    public int shoe(int shoe, int what) throws IndexOutOfBoundsException, NoSuchElementException {
        if (!tale.hasShoe(shoe)) {
            throw new IndexOutOfBoundsException("no such shoe");
        }
        switch (what) {
            case 0:
                return tale.side[shoe];
            case 1:
                return tale.size[shoe];
            case 2:
                return world.used[shoe];
            case 3:
                return tale.kind[shoe];
            case 4:
                return world.owner[shoe];
            case 5:
                return world.worthOf(shoe);
            case 6:
                return world.isWorn(shoe) ? 1 : 0;
            default:
                throw new NoSuchElementException("no such what");
        }
    }

    public int person(int person, int what) {
        if (!tale.hasPerson(person)) {
            return NONE;
        }
        switch (what) {
            case 0:
                return world.worn[2 * person];
            case 1:
                return world.worn[2 * person + 1];
            case 2:
                return world.worthOwned(person);
            case 3:
                return Integer.bitCount(world.shoesOf(person));
            case 4:
                return world.shoesOf(person);
            default:
                return NONE;
        }
    }

    public int debt(int debt, int what) {
        if (debt < 0 || debt >= tale.debts) {
            return NONE;
        }
        switch (what) {
            case 0:
                return tale.debtor[debt];
            case 1:
                return tale.creditor[debt];
            case 2:
                return tale.owed[debt];
            case 3:
                return tale.due[debt];
            case 4:
                return world.settled[debt];
            default:
                return NONE;
        }
    }

    public int pair(int left, int right) {
        return world.arePair(left, right) ? world.pairOf(left, right) : NONE;
    }

    public long law(int what, int shoe, int other) {
        if (what == PAIR_RULE) {
            return world.arePair(shoe, other) ? world.lawOfPair(shoe, other) : ERROR;
        }
        if (!world.isThere(shoe) || (what != WORTH_RULE && what != WEAR_RULE)) {
            return ERROR;
        }
        return world.lawOf(what, shoe, world.used[shoe], world.day);
    }

    public int pay(int from, int to, int price) {
        if (!tale.hasPerson(from) || !tale.hasPerson(to) || from == to || !isPrice(price)) {
            return NONE;
        }
        int shoes = world.shoesFor(from, price);
        if (shoes != NOT_SO) {
            history.note(world);
            world.handOver(shoes, to);
        }
        return shoes;
    }

    private static boolean isPrice(int price) {
        return price >= 1 && price <= MOST_PRICE;
    }

    public boolean give(int shoe, int to) {
        if (!world.isThere(shoe) || (to != AT_BANK && !tale.hasPerson(to)) || world.owner[shoe] == to) {
            return false;
        }
        history.note(world);
        world.move(shoe, to);
        return true;
    }

    public boolean on(int shoe) {
        if (!world.isThere(shoe) || world.owner[shoe] == AT_BANK || world.isWorn(shoe)) {
            return false;
        }
        history.note(world);
        world.putOn(shoe);
        return true;
    }

    public boolean off(int shoe) {
        if (!world.isThere(shoe) || !world.isWorn(shoe)) {
            return false;
        }
        history.note(world);
        world.takeOff(shoe);
        return true;
    }

    public int days(int n) {
        if (n < 0 || n > MOST_DAYS || world.day + n > LAST_DAY) {
            return NONE;
        }
        for (int i = 0; i < n; i++) {
            world.passDay();
        }
        if (n > 0) {
            history.clear();
        }
        return world.day;
    }

    public int refused() {
        for (int debt = 0; debt < tale.debts; debt++) {
            if (world.settled[debt] == REFUSED) {
                return debt;
            }
        }
        return NONE;
    }

    public int change(int person, int price) {
        if (!tale.hasPerson(person) || !isPrice(price)) {
            return NONE;
        }
        return world.shoesFor(person, price);
    }

    public int mint(int n, int k) {
        if (n < 1 || n > 40 || k < 1 || k > 5) {
            return NONE;
        }
        int useful = sizesUpTo(n);
        for (int sizes = 1; sizes <= Integer.bitCount(useful); sizes++) {
            for (int bits = 1; bits <= useful; bits++) {
                if ((bits & ~useful) == 0 && Integer.bitCount(bits) == sizes && makesAll(bits, n, k)) {
                    return bits;
                }
            }
        }
        return NOT_SO;
    }

    // A size whose boot is worth nothing, or more than every price, is never among the fewest.
    private int sizesUpTo(int n) {
        int bits = 0;
        for (int size = 1; size <= MINT_SIZES; size++) {
            int worth = world.worthOfFreshBoot(size);
            minted[size - 1] = worth;
            if (worth >= 1 && worth <= n) {
                bits |= 1 << (size - 1);
            }
        }
        return bits;
    }

    // The sums that can be made are bits of one long: a price is 40 at most.
    private boolean makesAll(int bits, int n, int k) {
        long all = (2L << n) - 1;
        long made = 1;
        for (int boots = 0; boots < k; boots++) {
            long more = made;
            for (int i = 0; i < MINT_SIZES; i++) {
                if ((bits >> i & 1) == 1) {
                    more |= made << minted[i];
                }
            }
            made = more & all;
        }
        return made == all;
    }

    public int pairs() {
        couples.match(world);
        return couples.sum;
    }

    public int partner(int shoe) {
        if (!world.isThere(shoe)) {
            return NONE;
        }
        couples.match(world);
        return couples.partnerOf[shoe];
    }

    public int walk(int person, int n, int what) {
        if (!tale.hasPerson(person) || n < 1 || n > MOST_WALK || what < 0 || what > 1) {
            return NONE;
        }
        stroll.plan(person, n);
        return what == 0 ? stroll.least : stroll.walked;
    }

    public int rests(int left, int right) {
        if (!areHalves(left, right)) {
            return NONE;
        }
        int pair = world.pairOf(left, right);
        int found = 0;
        for (int asks = 0; asks < 100; asks++) {
            if (isRest(asks / 10, asks % 10, pair)) {
                found++;
            }
        }
        return found;
    }

    public int rest(int left, int right, int k) {
        if (!areHalves(left, right) || k < 0) {
            return NONE;
        }
        int pair = world.pairOf(left, right);
        int found = 0;
        for (int asks = 0; asks < 100; asks++) {
            if (isRest(asks / 10, asks % 10, pair)) {
                if (found == k) {
                    return asks;
                }
                found++;
            }
        }
        return NOT_SO;
    }

    private boolean areHalves(int left, int right) {
        return world.arePair(left, right) && tale.hasPerson(world.owner[left]) && tale.hasPerson(world.owner[right])
            && world.owner[left] != world.owner[right];
    }

    private static boolean isRest(int mine, int yours, int pair) {
        boolean agreed = mine + yours <= pair;
        return (agreed ? mine : 0) == mostAgainst(yours, pair) && (agreed ? yours : 0) == mostAgainst(mine, pair);
    }

    private static int mostAgainst(int asked, int pair) {
        return Math.max(0, Math.min(MOST_ASKED, pair - asked));
    }

    public int run(int persons) {
        if (!allHaveClaims(persons)) {
            return NONE;
        }
        int running = persons;
        for (int round = 0; round < MOST_PERSONS; round++) {
            running |= frightened(bankShoes() - claimed(running));
        }
        return running;
    }

    public int save(int persons) {
        if (!allHaveClaims(persons)) {
            return NONE;
        }
        int greatest = 0;
        for (int person = 0; person < tale.persons; person++) {
            if ((persons >> person & 1) == 0) {
                greatest = Math.max(greatest, tale.claim[person]);
            }
        }
        // Nobody else with a claim: even an empty bank frightens nobody.
        if (greatest == 0) {
            return 0;
        }
        return Math.max(0, 2 * greatest + claimed(persons) - bankShoes());
    }

    private int bankShoes() {
        return Integer.bitCount(world.shoesOf(AT_BANK));
    }

    private boolean allHaveClaims(int persons) {
        if (persons < 0 || persons >= 1 << tale.persons) {
            return false;
        }
        for (int person = 0; person < tale.persons; person++) {
            if ((persons >> person & 1) == 1 && tale.claim[person] == 0) {
                return false;
            }
        }
        return true;
    }

    private int claimed(int persons) {
        int sum = 0;
        for (int person = 0; person < tale.persons; person++) {
            if ((persons >> person & 1) == 1) {
                sum += tale.claim[person];
            }
        }
        return sum;
    }

    private int frightened(int leftOver) {
        int left = Math.max(0, leftOver);
        int bits = 0;
        for (int person = 0; person < tale.persons; person++) {
            if (2 * tale.claim[person] > left) {
                bits |= 1 << person;
            }
        }
        return bits;
    }

    public int track(int side, int size) {
        if (side < LEFT_SIDE || side > RIGHT_SIDE || size < 1 || size > MOST_SIZE) {
            return NONE;
        }
        return tracks.add(side, size);
    }

    public int strike(int track) {
        if (track < 0 || track >= tracks.size) {
            return NONE;
        }
        return tracks.add(Tracks.STRIKE, track);
    }

    public boolean known(int n) {
        if (n < Tracks.ALL || n > tracks.size) {
            return false;
        }
        tracks.limit = n;
        return true;
    }

    public int who() {
        return tracks.suspects(world);
    }

    public int tells(int what) {
        if (what < 0 || what > 2) {
            return NONE;
        }
        int found = tracks.mostTelling(world);
        if (found == NOT_SO) {
            return NOT_SO;
        }
        int side = found / (MOST_SIZE + 1);
        int size = found % (MOST_SIZE + 1);
        if (what == 2) {
            return Integer.bitCount(Tracks.fitting(world, tracks.suspects(world), side, size));
        }
        return what == 0 ? side : size;
    }

    public int ring() {
        return tale.swaps.findRing();
    }

    public int good(int k) {
        if (k < 0) {
            return NONE;
        }
        int length = tale.swaps.findRing();
        return k < length && k < GOODS ? tale.swaps.path[k] : NOT_SO;
    }

    public int chance(int seed, int n, int person, int bound) {
        if (seed < 0 || n < 1 || n > 30 || !tale.hasPerson(person) || bound < 0 || bound > 9999
            || world.day + n > LAST_DAY) {
            return NONE;
        }
        int number = seed;
        int rich = 0;
        for (int year = 0; year < YEARS; year++) {
            trial.copyFrom(world);
            for (int i = 0; i < n; i++) {
                number = nextNumber(number);
                int luck = number / 65536 % 3;
                if (luck == 0) {
                    trial.walkThroughMud();
                } else if (luck == 1 && tale.shoes > 0) {
                    number = nextNumber(number);
                    trial.bury(number / 65536 % tale.shoes);
                }
                trial.passDay();
            }
            if (trial.worthOwned(person) >= bound) {
                rich++;
            }
        }
        return rich;
    }

    private static int nextNumber(int last) {
        return (int) (last * 1103515245L + 12345L & 0x7fffffffL);
    }

    public int tried(int what, int i, int n) {
        if (!canTry(what, i) || n < 0 || n > MOST_DAYS || world.day + n > LAST_DAY) {
            return NONE;
        }
        trial.copyFrom(world);
        switch (what) {
            case 0:
                trial.walking = false;
                break;
            case 1:
                trial.owing = false;
                break;
            case 2:
                trial.undress(i);
                break;
            case 3:
                trial.bury(i);
                break;
            default:
                trial.makeAllLeft();
                break;
        }
        for (int passed = 0; passed < n; passed++) {
            trial.passDay();
        }
        return trial.worthOfAll();
    }

    private boolean canTry(int what, int i) {
        if (what == 2) {
            return tale.hasPerson(i);
        }
        if (what == 3) {
            return tale.hasShoe(i);
        }
        return i == 0 && (what == 0 || what == 1 || what == 4);
    }

    public int undo() {
        return history.recall(world) ? history.size : NONE;
    }

    public int keep() {
        image.copyFrom(world);
        kept = true;
        return world.day;
    }

    public int back() {
        if (!kept) {
            return NONE;
        }
        world.copyFrom(image);
        history.clear();
        return world.day;
    }

    public int count(int what) {
        switch (what) {
            case 0:
                return tale.persons;
            case 1:
                return tale.shoes;
            case 2:
                return tale.debts;
            case 3:
                return tale.swaps.rates;
            case 4:
                return tale.laws.knots;
            case 5:
                return world.day;
            case 6:
                return Integer.bitCount(world.shoesOf(IN_GRAVE));
            case 7:
                return bankShoes();
            case 8:
                return world.worthOfAll();
            case 9:
                return world.debtsThatAre(PAID);
            case 10:
                return world.debtsThatAre(REFUSED);
            case 11:
                return tracks.size;
            case 12:
                return tracks.knownBy();
            case 13:
                return history.size;
            default:
                return NONE;
        }
    }

    /** What a text tells, as it tells it; days and calls change nothing here. */
    private static final class Tale {
        int persons;
        final int[] name = new int[MOST_PERSONS];
        final int[] foot = new int[MOST_PERSONS];
        final int[] steps = new int[MOST_PERSONS];
        final int[] fare = new int[MOST_PERSONS];
        final int[] claim = new int[MOST_PERSONS];
        int shoes;
        final int[] side = new int[MOST_SHOES];
        final int[] size = new int[MOST_SHOES];
        final int[] used = new int[MOST_SHOES];
        final int[] kind = new int[MOST_SHOES];
        final int[] owner = new int[MOST_SHOES];
        int debts;
        final int[] debtor = new int[MOST_DEBTS];
        final int[] creditor = new int[MOST_DEBTS];
        final int[] owed = new int[MOST_DEBTS];
        final int[] due = new int[MOST_DEBTS];
        final Swaps swaps = new Swaps();
        final Laws laws = new Laws();

        void clear() {
            persons = 0;
            shoes = 0;
            debts = 0;
            for (int i = 0; i < MOST_PERSONS; i++) {
                claim[i] = 0;
            }
            swaps.clear();
            laws.clear();
        }

        boolean hasPerson(int person) {
            return person >= 0 && person < persons;
        }

        boolean hasShoe(int shoe) {
            return shoe >= 0 && shoe < shoes;
        }

        int personNamed(int letters) {
            for (int person = 0; person < persons; person++) {
                if (name[person] == letters) {
                    return person;
                }
            }
            return NONE;
        }
    }

    /** The expressions of the three rules, each behind its operands, in one row of knots. */
    private static final class Laws {
        int knots;
        private int written;
        private final int[] code = new int[MOST_KNOTS];
        private final int[] number = new int[MOST_KNOTS];
        private final int[] from = new int[RULES];
        private final int[] to = new int[RULES];
        private final boolean[] told = new boolean[RULES];
        private final long[] names = new long[NAMES];
        private final long[] stack = new long[MOST_KNOTS];

        void clear() {
            knots = 0;
            written = 0;
            for (int rule = 0; rule < RULES; rule++) {
                told[rule] = false;
            }
        }

        boolean isTold(int rule) {
            return rule >= 0 && rule < RULES && told[rule];
        }

        void open(int rule) {
            if (rule >= 0 && rule < RULES) {
                told[rule] = true;
                from[rule] = written;
                to[rule] = written;
            }
        }

        void close(int rule) {
            if (rule >= 0 && rule < RULES) {
                to[rule] = written;
            }
        }

        void put(int knot, int value) {
            if (written < MOST_KNOTS) {
                code[written] = knot;
                number[written] = value;
                written++;
            }
        }

        void setShoe(int size, int used, int sort, int left) {
            names[NAME_SIZE] = size;
            names[NAME_USED] = used;
            names[NAME_SORT] = sort;
            names[NAME_LEFT] = left;
        }

        void setOwner(int steps, int foot, int day) {
            names[NAME_STEPS] = steps;
            names[NAME_FOOT] = foot;
            names[NAME_DAY] = day;
        }

        /** The value of a rule for what was set last; ERROR also where the rule is not told. */
        long valueOf(int rule) {
            if (!isTold(rule)) {
                return ERROR;
            }
            int top = 0;
            for (int i = from[rule]; i < to[rule] && i < MOST_KNOTS; i++) {
                int knot = code[i];
                if (knot == NUMBER || knot == FREE_WORD) {
                    if (top >= MOST_KNOTS) {
                        return ERROR;
                    }
                    stack[top] = knot == NUMBER ? number[i] : nameAt(number[i]);
                    top++;
                } else if (knot == W_NOT) {
                    if (top < 1) {
                        return ERROR;
                    }
                    stack[top - 1] = stack[top - 1] == 0 ? 1 : 0;
                } else {
                    if (top < 2) {
                        return ERROR;
                    }
                    top--;
                    long value = join(knot, stack[top - 1], stack[top]);
                    if (value > MOST_VALUE || value < -MOST_VALUE) {
                        return ERROR;
                    }
                    stack[top - 1] = value;
                }
            }
            return top == 1 ? stack[0] : ERROR;
        }

        private long nameAt(int name) {
            return name >= 0 && name < NAMES ? names[name] : 0;
        }

        private static long join(int knot, long a, long b) {
            switch (knot) {
                case PLUS:
                    return a + b;
                case MINUS:
                    return a - b;
                case TIMES:
                    // A product that leaves the long would come back as a small one.
                    long high = a < 0 ? -a : a;
                    long wide = b < 0 ? -b : b;
                    return high != 0 && wide > MOST_VALUE / high ? ERROR : a * b;
                case OVER:
                    return b == 0 ? ERROR : a / b;
                case LESS:
                    return a < b ? 1 : 0;
                case LESS_OR_SAME:
                    return a <= b ? 1 : 0;
                case SAME:
                    return a == b ? 1 : 0;
                case UNLIKE:
                    return a != b ? 1 : 0;
                case MORE_OR_SAME:
                    return a >= b ? 1 : 0;
                case MORE:
                    return a > b ? 1 : 0;
                case W_AND:
                    return a != 0 && b != 0 ? 1 : 0;
                case W_OR:
                    return a != 0 || b != 0 ? 1 : 0;
                default:
                    return ERROR;
            }
        }
    }

    /** Cuts the bytes into tokens; the latest one stands in the fields. */
    private static final class Reader {
        private static final int NUMBER_CAP = 1000000;
        int kind;
        int value;
        int place;
        private byte[] bytes;
        private int length;
        private int at;
        private final int[] words;

        Reader() {
            bytes = new byte[0];
            words = new int[WORDS];
            int word = 0;
            int letters = 0;
            for (int i = 0; i < LANGUAGE.length() && word < WORDS; i++) {
                char sign = LANGUAGE.charAt(i);
                if (sign == ' ') {
                    words[word] <<= LETTER_BITS * (MOST_LETTERS - letters);
                    letters = 0;
                    word++;
                } else {
                    words[word] = words[word] << LETTER_BITS | sign - 'a' + 1;
                    letters++;
                }
            }
            words[WORDS - 1] <<= LETTER_BITS * (MOST_LETTERS - letters);
        }

        // From here on the length is at most that of the bytes, so a place below it is one of theirs.
        void begin(byte[] tape, int n) {
            bytes = tape;
            length = Math.max(0, Math.min(n, tape.length));
            at = 0;
            advance();
        }

        void advance() {
            while (at < length && (bytes[at] == 10 || bytes[at] == 32)) {
                at++;
            }
            place = at;
            value = 0;
            if (at >= length) {
                kind = END;
            } else if (bytes[at] >= 'a' && bytes[at] <= 'z') {
                readWord();
            } else if (bytes[at] >= '0' && bytes[at] <= '9') {
                readNumber();
            } else {
                readSign(bytes[at], at + 1 < length ? bytes[at + 1] : 0);
            }
        }

        private void readWord() {
            int letters = 0;
            int packed = 0;
            while (at < length && bytes[at] >= 'a' && bytes[at] <= 'z') {
                if (letters < MOST_LETTERS) {
                    packed = packed << LETTER_BITS | bytes[at] - 'a' + 1;
                }
                letters++;
                at++;
            }
            if (letters > MOST_LETTERS) {
                kind = NO_TOKEN;
                return;
            }
            value = packed << LETTER_BITS * (MOST_LETTERS - letters);
            kind = FREE_WORD;
            for (int word = 0; word < WORDS; word++) {
                if (words[word] == value) {
                    kind = word;
                }
            }
        }

        private void readNumber() {
            kind = NUMBER;
            while (at < length && bytes[at] >= '0' && bytes[at] <= '9') {
                value = value * 10 + bytes[at] - '0';
                value = value > NUMBER_CAP ? NUMBER_CAP : value;
                at++;
            }
        }

        private void readSign(int sign, int behind) {
            boolean joined = behind == '=' && (sign == '<' || sign == '>') || behind == '>' && sign == '<';
            at += joined ? 2 : 1;
            switch (sign) {
                case ';':
                    kind = SEMICOLON;
                    break;
                case '(':
                    kind = OPEN;
                    break;
                case ')':
                    kind = CLOSE;
                    break;
                case '<':
                    kind = !joined ? LESS : behind == '=' ? LESS_OR_SAME : UNLIKE;
                    break;
                case '=':
                    kind = SAME;
                    break;
                case '>':
                    kind = joined ? MORE_OR_SAME : MORE;
                    break;
                case '+':
                    kind = PLUS;
                    break;
                case '-':
                    kind = MINUS;
                    break;
                case '*':
                    kind = TIMES;
                    break;
                case '/':
                    kind = OVER;
                    break;
                default:
                    kind = NO_TOKEN;
                    break;
            }
        }
    }

    /** Writes a tale from tokens, or stops at the first fault: each fault lies at the token in the reader. */
    private static final class Scribe {
        private static final int OR_LEVEL = 0;
        private static final int AND_LEVEL = 1;
        private static final int NOT_LEVEL = 2;
        private static final int COMPARE_LEVEL = 3;
        private static final int SUM_LEVEL = 4;
        private static final int PRODUCT_LEVEL = 5;
        private static final int OPERAND_LEVEL = 6;
        int lines;
        int fault;
        int faultPlace;
        private boolean seeded;
        private final Reader reader = new Reader();
        private Tale tale;

        Scribe(Tale blank) {
            tale = blank;
        }

        boolean write(byte[] tape, int n, Tale blank) {
            tale = blank;
            tale.clear();
            lines = 0;
            seeded = false;
            fault = 0;
            faultPlace = NONE;
            reader.begin(tape, n);
            while (lines <= n && reader.kind != END) {
                if (!readLine() || !take(SEMICOLON)) {
                    return false;
                }
                lines++;
            }
            return true;
        }

        private boolean refuse(int number) {
            fault = number;
            faultPlace = reader.place;
            return false;
        }

        private boolean take(int kind) {
            if (reader.kind != kind) {
                return refuse(NOT_A_TOKEN_HERE);
            }
            reader.advance();
            return true;
        }

        private boolean readLine() {
            switch (reader.kind) {
                case W_PERSON:
                    return readPerson();
                case W_SHOE:
                    return readShoe();
                case W_DEBT:
                    return readDebt();
                case W_CLAIM:
                    return readClaim();
                case W_SWAP:
                    return readSwap();
                case W_SEED:
                    return readSeed();
                case W_LAW:
                    return readLaw();
                default:
                    return refuse(NOT_A_TOKEN_HERE);
            }
        }

        /** The number that stands here, or NONE with a fault. */
        private int takeNumber(int least, int most) {
            if (reader.kind != NUMBER) {
                refuse(NOT_A_TOKEN_HERE);
                return NONE;
            }
            int value = reader.value;
            if (value < least || value > most) {
                refuse(TOO_MUCH);
                return NONE;
            }
            reader.advance();
            return value;
        }

        /** Which of a row of words stands here, or NONE with a fault; it is not passed yet. */
        private int lookAt(int first, int last) {
            if (reader.kind < first || reader.kind > last) {
                refuse(NOT_A_TOKEN_HERE);
                return NONE;
            }
            return reader.kind - first;
        }

        private int takeOneOf(int first, int last) {
            int found = lookAt(first, last);
            if (found >= 0) {
                reader.advance();
            }
            return found;
        }

        /** The person whose name stands here, or NONE with a fault; it is not passed yet. */
        private int lookAtPerson() {
            if (reader.kind != FREE_WORD) {
                refuse(NOT_A_TOKEN_HERE);
                return NONE;
            }
            int person = tale.personNamed(reader.value);
            if (person < 0) {
                refuse(NOT_TOLD);
            }
            return person;
        }

        private boolean readPerson() {
            int person = tale.persons;
            if (person >= MOST_PERSONS) {
                return refuse(TOO_MUCH);
            }
            reader.advance();
            if (reader.kind != FREE_WORD) {
                return refuse(NOT_A_TOKEN_HERE);
            }
            if (tale.personNamed(reader.value) >= 0) {
                return refuse(TOLD_ALREADY);
            }
            tale.name[person] = reader.value;
            reader.advance();
            tale.foot[person] = takeNumber(1, MOST_SIZE);
            if (fault == 0) {
                tale.steps[person] = takeNumber(0, 99);
            }
            if (fault == 0) {
                tale.fare[person] = takeNumber(0, 99);
            }
            tale.persons++;
            return fault == 0;
        }

        private boolean readShoe() {
            int shoe = tale.shoes;
            if (shoe >= MOST_SHOES) {
                return refuse(TOO_MUCH);
            }
            reader.advance();
            tale.side[shoe] = takeOneOf(W_LEFT, W_RIGHT);
            if (fault == 0) {
                tale.size[shoe] = takeNumber(1, MOST_SIZE);
            }
            if (fault == 0) {
                tale.used[shoe] = takeNumber(0, WORN_OUT - 1);
            }
            if (fault == 0) {
                tale.kind[shoe] = takeOneOf(W_BOOT, W_FELT);
            }
            if (fault == 0) {
                tale.owner[shoe] = reader.kind == W_BANK ? AT_BANK : lookAtPerson();
            }
            if (fault != 0) {
                return false;
            }
            reader.advance();
            tale.shoes++;
            return true;
        }

        private boolean readDebt() {
            int debt = tale.debts;
            if (debt >= MOST_DEBTS) {
                return refuse(TOO_MUCH);
            }
            reader.advance();
            int debtor = lookAtPerson();
            if (debtor < 0) {
                return false;
            }
            reader.advance();
            int creditor = lookAtPerson();
            if (creditor < 0) {
                return false;
            }
            if (creditor == debtor) {
                return refuse(TO_ITSELF);
            }
            reader.advance();
            tale.debtor[debt] = debtor;
            tale.creditor[debt] = creditor;
            tale.owed[debt] = takeNumber(1, 999);
            if (fault == 0) {
                tale.due[debt] = takeNumber(0, 99);
            }
            tale.debts++;
            return fault == 0;
        }

        private boolean readClaim() {
            reader.advance();
            int person = lookAtPerson();
            if (person < 0) {
                return false;
            }
            if (tale.claim[person] > 0) {
                return refuse(TOLD_ALREADY);
            }
            reader.advance();
            tale.claim[person] = takeNumber(1, 9);
            return fault == 0;
        }

        private boolean readSwap() {
            Swaps swaps = tale.swaps;
            if (swaps.rates >= MOST_RATES) {
                return refuse(TOO_MUCH);
            }
            reader.advance();
            int kind = takeOneOf(W_BOOT, W_FELT);
            int side = fault == 0 ? takeOneOf(W_LEFT, W_RIGHT) : NONE;
            int given = fault == 0 ? takeNumber(1, 99) : NONE;
            int otherKind = fault == 0 ? takeOneOf(W_BOOT, W_FELT) : NONE;
            int otherSide = fault == 0 ? lookAt(W_LEFT, W_RIGHT) : NONE;
            if (fault != 0) {
                return false;
            }
            int good = 2 * kind + side;
            int other = 2 * otherKind + otherSide;
            if (good == other) {
                return refuse(TO_ITSELF);
            }
            int rate = good * GOODS + other;
            if (swaps.got[rate] > 0) {
                return refuse(TOLD_ALREADY);
            }
            reader.advance();
            swaps.given[rate] = given;
            swaps.got[rate] = takeNumber(1, 99);
            swaps.rates++;
            return fault == 0;
        }

        private boolean readSeed() {
            if (seeded) {
                return refuse(TOLD_ALREADY);
            }
            reader.advance();
            seeded = true;
            return takeNumber(0, 99999) >= 0;
        }

        private boolean readLaw() {
            reader.advance();
            int rule = lookAt(W_WORTH, W_PAIR);
            if (rule < 0) {
                return false;
            }
            if (tale.laws.isTold(rule)) {
                return refuse(TOLD_ALREADY);
            }
            reader.advance();
            tale.laws.open(rule);
            boolean read = readLevel(OR_LEVEL, 0);
            tale.laws.close(rule);
            return read;
        }

        private static int levelOf(int kind) {
            if (kind == W_OR) {
                return OR_LEVEL;
            }
            if (kind == W_AND) {
                return AND_LEVEL;
            }
            if (kind >= LESS && kind <= MORE) {
                return COMPARE_LEVEL;
            }
            if (kind == PLUS || kind == MINUS) {
                return SUM_LEVEL;
            }
            return kind == TIMES || kind == OVER ? PRODUCT_LEVEL : NONE;
        }

        // Knots are counted as they come along the text, not as they are put behind their operands.
        private boolean takeKnot() {
            if (tale.laws.knots >= MOST_KNOTS) {
                return refuse(TOO_MUCH);
            }
            tale.laws.knots++;
            reader.advance();
            return true;
        }

        private boolean readLevel(int level, int open) {
            if (level >= OPERAND_LEVEL) {
                return readOperand(open);
            }
            if (level == NOT_LEVEL) {
                return readNots(open);
            }
            if (!readLevel(level + 1, open)) {
                return false;
            }
            // A comparison has two sides and no third one.
            int most = level == COMPARE_LEVEL ? 1 : MOST_KNOTS + 1;
            for (int i = 0; i < most && levelOf(reader.kind) == level; i++) {
                int sign = reader.kind;
                if (!takeKnot() || !readLevel(level + 1, open)) {
                    return false;
                }
                tale.laws.put(sign, 0);
            }
            return true;
        }

        private boolean readNots(int open) {
            int nots = 0;
            while (nots <= MOST_KNOTS && reader.kind == W_NOT) {
                if (!takeKnot()) {
                    return false;
                }
                nots++;
            }
            if (!readLevel(COMPARE_LEVEL, open)) {
                return false;
            }
            for (int i = 0; i < nots; i++) {
                tale.laws.put(W_NOT, 0);
            }
            return true;
        }

        private boolean readOperand(int open) {
            int kind = reader.kind;
            if (kind == OPEN) {
                if (open >= MOST_OPEN) {
                    return refuse(TOO_MUCH);
                }
                reader.advance();
                return readLevel(OR_LEVEL, open + 1) && take(CLOSE);
            }
            boolean isName = kind == W_LEFT || (kind >= W_SIZE && kind <= W_FOOT);
            if (!isName && kind != NUMBER) {
                return refuse(NOT_A_TOKEN_HERE);
            }
            int value = kind == W_LEFT ? NAME_LEFT : kind - W_SIZE;
            if (kind == NUMBER) {
                value = reader.value;
                if (value > 9999) {
                    return refuse(TOO_MUCH);
                }
            }
            tale.laws.put(isName ? FREE_WORD : NUMBER, value);
            return takeKnot();
        }
    }

    /** How things stand on a day: the true course of things, the image of it, and one to try things in. */
    private static final class World {
        private static final int ONE_SHOE = 1 << MOST_SHOES;
        private static final int NEVER = Integer.MAX_VALUE;
        Tale tale;
        int day;
        boolean walking;
        boolean owing;
        final int[] side = new int[MOST_SHOES];
        final int[] used = new int[MOST_SHOES];
        final int[] owner = new int[MOST_SHOES];
        // Of each person the left foot, then the right one.
        final int[] worn = new int[2 * MOST_PERSONS];
        final int[] settled = new int[MOST_DEBTS];
        // One row for all worlds: no two of them reckon at once.
        private final int[] sums;

        World(Tale told, int[] row) {
            tale = told;
            sums = row;
            walking = true;
            owing = true;
        }

        void begin(Tale told) {
            tale = told;
            day = 0;
            for (int shoe = 0; shoe < MOST_SHOES; shoe++) {
                side[shoe] = tale.side[shoe];
                used[shoe] = tale.used[shoe];
                owner[shoe] = tale.owner[shoe];
            }
            for (int foot = 0; foot < worn.length; foot++) {
                worn[foot] = NONE;
            }
            for (int debt = 0; debt < MOST_DEBTS; debt++) {
                settled[debt] = TO_COME;
            }
        }

        void copyFrom(World other) {
            tale = other.tale;
            day = other.day;
            walking = other.walking;
            owing = other.owing;
            System.arraycopy(other.side, 0, side, 0, MOST_SHOES);
            System.arraycopy(other.used, 0, used, 0, MOST_SHOES);
            System.arraycopy(other.owner, 0, owner, 0, MOST_SHOES);
            System.arraycopy(other.worn, 0, worn, 0, 2 * MOST_PERSONS);
            System.arraycopy(other.settled, 0, settled, 0, MOST_DEBTS);
        }

        boolean isThere(int shoe) {
            return tale.hasShoe(shoe) && owner[shoe] != IN_GRAVE;
        }

        boolean arePair(int left, int right) {
            return isThere(left) && isThere(right) && side[left] == LEFT_SIDE && side[right] == RIGHT_SIDE;
        }

        // Both feet are looked at: where all shoes are left ones, a foot tells no side.
        boolean isWorn(int shoe) {
            int person = tale.hasShoe(shoe) ? owner[shoe] : AT_BANK;
            return tale.hasPerson(person) && (worn[2 * person] == shoe || worn[2 * person + 1] == shoe);
        }

        void takeOff(int shoe) {
            int person = tale.hasShoe(shoe) ? owner[shoe] : AT_BANK;
            if (tale.hasPerson(person)) {
                for (int foot = 2 * person; foot <= 2 * person + 1; foot++) {
                    if (worn[foot] == shoe) {
                        worn[foot] = NONE;
                    }
                }
            }
        }

        void putOn(int shoe) {
            int person = tale.hasShoe(shoe) ? owner[shoe] : AT_BANK;
            if (tale.hasPerson(person)) {
                worn[2 * person + side[shoe]] = shoe;
            }
        }

        void undress(int person) {
            if (tale.hasPerson(person)) {
                worn[2 * person] = NONE;
                worn[2 * person + 1] = NONE;
            }
        }

        void move(int shoe, int to) {
            if (tale.hasShoe(shoe)) {
                takeOff(shoe);
                owner[shoe] = to;
            }
        }

        void bury(int shoe) {
            move(shoe, IN_GRAVE);
        }

        void handOver(int shoes, int to) {
            for (int shoe = 0; shoe < tale.shoes; shoe++) {
                if ((shoes >> shoe & 1) == 1) {
                    move(shoe, to);
                }
            }
        }

        void makeAllLeft() {
            for (int shoe = 0; shoe < tale.shoes; shoe++) {
                side[shoe] = LEFT_SIDE;
            }
        }

        int shoesOf(int whose) {
            int bits = 0;
            for (int shoe = 0; shoe < tale.shoes; shoe++) {
                if (owner[shoe] == whose) {
                    bits |= 1 << shoe;
                }
            }
            return bits;
        }

        int debtsThatAre(int state) {
            int found = 0;
            for (int debt = 0; debt < tale.debts; debt++) {
                if (settled[debt] == state) {
                    found++;
                }
            }
            return found;
        }

        long lawOf(int rule, int shoe, int usedThen, int dayThen) {
            if (!tale.hasShoe(shoe)) {
                return ERROR;
            }
            int person = owner[shoe];
            boolean owned = tale.hasPerson(person);
            Laws laws = tale.laws;
            laws.setShoe(tale.size[shoe], usedThen, tale.kind[shoe], side[shoe] == LEFT_SIDE ? 1 : 0);
            laws.setOwner(owned ? tale.steps[person] : 0, owned ? tale.foot[person] : 0, dayThen);
            return laws.valueOf(rule);
        }

        long lawOfPair(int left, int right) {
            if (!tale.hasShoe(left) || !tale.hasShoe(right)) {
                return ERROR;
            }
            Laws laws = tale.laws;
            int unlike = Math.abs(tale.size[left] - tale.size[right]);
            laws.setShoe(tale.size[left], used[left] + used[right], tale.kind[left], unlike);
            laws.setOwner(0, 0, day);
            return laws.valueOf(PAIR_RULE);
        }

        private static int within(long value, int most) {
            return (int) Math.max(0, Math.min(most, value));
        }

        int worthOf(int shoe) {
            return isThere(shoe) ? worthWhen(shoe, used[shoe], day) : 0;
        }

        int worthWhen(int shoe, int usedThen, int dayThen) {
            long value = lawOf(WORTH_RULE, shoe, usedThen, dayThen);
            if (value != ERROR) {
                return within(value, MOST_WORTH);
            }
            if (!tale.hasShoe(shoe)) {
                return 0;
            }
            int size = tale.size[shoe];
            return Math.max(0, (side[shoe] == LEFT_SIDE ? 2 * size : size) - usedThen / 5);
        }

        int worthOfFreshBoot(int size) {
            tale.laws.setShoe(size, 0, 0, 1);
            tale.laws.setOwner(0, 0, day);
            long value = tale.laws.valueOf(WORTH_RULE);
            return value == ERROR ? 2 * size : within(value, MOST_WORTH);
        }

        int wearWhen(int shoe, int usedThen, int dayThen) {
            long value = lawOf(WEAR_RULE, shoe, usedThen, dayThen);
            if (value != ERROR) {
                return within(value, MOST_WEAR);
            }
            int person = tale.hasShoe(shoe) ? owner[shoe] : AT_BANK;
            return tale.hasPerson(person) ? tale.steps[person] / 10 : 0;
        }

        int pairOf(int left, int right) {
            long value = lawOfPair(left, right);
            if (value != ERROR) {
                return within(value, MOST_WORTH);
            }
            boolean alike = tale.hasShoe(left) && tale.hasShoe(right) && tale.size[left] == tale.size[right]
                && tale.kind[left] == tale.kind[right];
            return alike ? 10 : 0;
        }

        int worthOwned(int person) {
            int sum = 0;
            for (int shoe = 0; shoe < tale.shoes; shoe++) {
                if (owner[shoe] == person) {
                    sum += worthOf(shoe);
                }
            }
            return sum;
        }

        int worthOfAll() {
            int sum = 0;
            for (int shoe = 0; shoe < tale.shoes; shoe++) {
                sum += worthOf(shoe);
            }
            return sum;
        }

        /**
         * The shoes by which a person pays, or NOT_SO. For each sum the row holds how many shoes make it, above the
         * bits of these shoes: the least such number is the fewest shoes, and of several the least bits.
         */
        int shoesFor(int person, int price) {
            if (price < 0 || price >= sums.length) {
                return NOT_SO;
            }
            sums[0] = 0;
            int reach = 0;
            for (int shoe = 0; shoe < tale.shoes; shoe++) {
                int worth = owner[shoe] == person ? worthWhen(shoe, used[shoe], day) : 0;
                if (worth < 1 || worth > price) {
                    continue;
                }
                int further = Math.min(price, reach + worth);
                for (int sum = reach + 1; sum <= further; sum++) {
                    sums[sum] = NEVER;
                }
                reach = further;
                for (int sum = reach; sum >= worth; sum--) {
                    int without = sums[sum - worth];
                    if (without != NEVER && without + ONE_SHOE + (1 << shoe) < sums[sum]) {
                        sums[sum] = without + ONE_SHOE + (1 << shoe);
                    }
                }
            }
            return reach < price || sums[price] == NEVER ? NOT_SO : sums[price] & ONE_SHOE - 1;
        }

        void passDay() {
            for (int foot = 0; walking && foot < 2 * tale.persons; foot++) {
                int shoe = worn[foot];
                if (tale.hasShoe(shoe)) {
                    useMore(shoe, wearWhen(shoe, used[shoe], day));
                }
            }
            for (int debt = 0; owing && debt < tale.debts; debt++) {
                if (tale.due[debt] == day && settled[debt] == TO_COME) {
                    int shoes = shoesFor(tale.debtor[debt], tale.owed[debt]);
                    settled[debt] = shoes == NOT_SO ? REFUSED : PAID;
                    if (shoes != NOT_SO) {
                        handOver(shoes, tale.creditor[debt]);
                    }
                }
            }
            day++;
        }

        void walkThroughMud() {
            for (int foot = 0; foot < 2 * tale.persons; foot++) {
                useMore(worn[foot], MUD);
            }
        }

        private void useMore(int shoe, int more) {
            if (tale.hasShoe(shoe)) {
                used[shoe] += more;
                if (used[shoe] >= WORN_OUT) {
                    bury(shoe);
                }
            }
        }
    }

    /** Whose the shoes were and who wore them ahead of the latest calls, in a ring of rows. */
    private static final class History {
        int size;
        private int next;
        private final int[][] owners = new int[MOST_UNDONE][MOST_SHOES];
        private final int[][] worn = new int[MOST_UNDONE][2 * MOST_PERSONS];

        void clear() {
            size = 0;
            next = 0;
        }

        void note(World world) {
            System.arraycopy(world.owner, 0, owners[next], 0, MOST_SHOES);
            System.arraycopy(world.worn, 0, worn[next], 0, 2 * MOST_PERSONS);
            next = (next + 1) % MOST_UNDONE;
            size = Math.min(MOST_UNDONE, size + 1);
        }

        boolean recall(World world) {
            if (size == 0) {
                return false;
            }
            next = (next + MOST_UNDONE - 1) % MOST_UNDONE;
            size--;
            System.arraycopy(owners[next], 0, world.owner, 0, MOST_SHOES);
            System.arraycopy(worn[next], 0, world.worn, 0, 2 * MOST_PERSONS);
            return true;
        }
    }

    /** Prints and strikes in one row, and who may have left them. */
    private static final class Tracks {
        static final int STRIKE = 2;
        static final int ALL = -1;
        int size;
        int limit = ALL;
        // A side, or STRIKE; then the second row holds which one is struck instead of a size.
        private final int[] sideOf = new int[MOST_TRACKS];
        private final int[] sizeOf = new int[MOST_TRACKS];

        void clear() {
            size = 0;
            limit = ALL;
        }

        int add(int side, int sizeOrTrack) {
            if (size >= MOST_TRACKS) {
                return NONE;
            }
            sideOf[size] = side;
            sizeOf[size] = sizeOrTrack;
            size++;
            return size - 1;
        }

        int knownBy() {
            return limit == ALL ? size : limit;
        }

        // A strike lies behind what it strikes, so from the last one on each is settled ahead of what it strikes.
        int suspects(World world) {
            int persons = (1 << world.tale.persons) - 1;
            int struck = 0;
            for (int track = Math.min(size, knownBy()) - 1; track >= 0; track--) {
                if ((struck >> track & 1) == 0) {
                    if (sideOf[track] == STRIKE) {
                        struck |= 1 << sizeOf[track];
                    } else {
                        persons = fitting(world, persons, sideOf[track], sizeOf[track]);
                    }
                }
            }
            return persons;
        }

        static int fitting(World world, int persons, int side, int size) {
            int bits = 0;
            for (int person = 0; person < world.tale.persons; person++) {
                int shoe = world.worn[2 * person + (side == LEFT_SIDE ? 0 : 1)];
                int print = world.tale.hasShoe(shoe) ? world.tale.size[shoe] : world.tale.foot[person];
                if ((persons >> person & 1) == 1 && print == size) {
                    bits |= 1 << person;
                }
            }
            return bits;
        }

        /** The side times one more than the greatest size, and the size; NOT_SO if no track leaves anybody. */
        int mostTelling(World world) {
            int persons = suspects(world);
            int found = NOT_SO;
            int fewest = MOST_PERSONS + 1;
            for (int side = LEFT_SIDE; side <= RIGHT_SIDE; side++) {
                for (int size = 1; size <= MOST_SIZE; size++) {
                    int remain = Integer.bitCount(fitting(world, persons, side, size));
                    if (remain >= 1 && remain < fewest) {
                        fewest = remain;
                        found = side * (MOST_SIZE + 1) + size;
                    }
                }
            }
            return found;
        }
    }

    /**
     * The best pairs of all. A matching's weight holds the sum on top, and below it a digit for each left shoe, the
     * first one highest, that is the greater the earlier its partner comes and 0 without one: so the greatest weight
     * is the matching that is due, and its digits tell the partners.
     */
    private static final class Couples {
        private static final int MOST_SMALL = MOST_SHOES / 2;
        int sum;
        final int[] partnerOf = new int[MOST_SHOES];
        private final int[] lefts = new int[MOST_SHOES];
        private final int[] rights = new int[MOST_SHOES];
        private final long[] best = new long[1 << MOST_SMALL];
        private final long[] row = new long[MOST_SMALL];
        private int leftCount;
        private int rightCount;
        private int digitBits;

        void match(World world) {
            gather(world);
            boolean fewLefts = leftCount <= rightCount;
            int small = Math.min(MOST_SMALL, fewLefts ? leftCount : rightCount);
            int large = fewLefts ? rightCount : leftCount;
            int full = (1 << small) - 1;
            for (int mask = 0; mask <= full; mask++) {
                best[mask] = 0;
            }
            for (int j = 0; j < large; j++) {
                for (int i = 0; i < small; i++) {
                    row[i] = fewLefts ? weight(world, i, j) : weight(world, j, i);
                }
                for (int mask = full; mask > 0; mask--) {
                    best[mask] = bestWith(mask, small);
                }
            }
            tell(best[full]);
        }

        private void gather(World world) {
            leftCount = 0;
            rightCount = 0;
            for (int shoe = 0; shoe < world.tale.shoes; shoe++) {
                partnerOf[shoe] = NOT_SO;
                if (world.isThere(shoe) && world.side[shoe] == LEFT_SIDE) {
                    lefts[leftCount] = shoe;
                    leftCount++;
                } else if (world.isThere(shoe)) {
                    rights[rightCount] = shoe;
                    rightCount++;
                }
            }
            digitBits = 1;
            while (digitBits < 5 && 1 << digitBits <= rightCount) {
                digitBits++;
            }
        }

        private long weight(World world, int i, int j) {
            long digit = (1 << digitBits) - 1 - j;
            long pair = world.pairOf(lefts[i], rights[j]);
            return (pair << digitBits * leftCount) + (digit << digitBits * (leftCount - 1 - i));
        }

        private long bestWith(int mask, int small) {
            long most = best[mask];
            for (int i = 0; i < small; i++) {
                if ((mask >> i & 1) == 1) {
                    most = Math.max(most, best[mask ^ 1 << i] + row[i]);
                }
            }
            return most;
        }

        private void tell(long weight) {
            sum = (int) (weight >> digitBits * leftCount);
            int most = (1 << digitBits) - 1;
            for (int i = 0; i < leftCount; i++) {
                int j = most - (int) (weight >> digitBits * (leftCount - 1 - i) & most);
                if (j >= 0 && j < rightCount) {
                    partnerOf[lefts[i]] = rights[j];
                    partnerOf[rights[j]] = lefts[i];
                }
            }
        }
    }

    /** Walking or paying the fare, day by day: all ways, those that walk earlier first. */
    private static final class Stroll {
        int least;
        int walked;
        private final World world;
        private int days;
        private int fare;
        private int left;
        private int right;
        private int unwalked;
        private boolean found;

        Stroll(World now) {
            world = now;
        }

        void plan(int person, int n) {
            if (!world.tale.hasPerson(person)) {
                return;
            }
            days = n;
            fare = world.tale.fare[person];
            left = world.worn[2 * person];
            right = world.worn[2 * person + 1];
            unwalked = worthThen(left, usedNow(left)) + worthThen(right, usedNow(right));
            found = false;
            goOn(0, usedNow(left), usedNow(right), 0, 0);
        }

        // A bare foot is held as a shoe that is worn out: it loses nothing more.
        private int usedNow(int shoe) {
            return world.isThere(shoe) ? world.used[shoe] : WORN_OUT;
        }

        private int worthThen(int shoe, int used) {
            return used >= WORN_OUT ? 0 : world.worthWhen(shoe, used, world.day + days);
        }

        private int usedAfter(int shoe, int used, int dayThen) {
            return used >= WORN_OUT ? used : used + world.wearWhen(shoe, used, dayThen);
        }

        private void goOn(int passed, int leftUsed, int rightUsed, int fares, int bits) {
            if (passed >= days || passed >= MOST_WALK) {
                int sum = fares + unwalked - worthThen(left, leftUsed) - worthThen(right, rightUsed);
                if (!found || sum < least) {
                    found = true;
                    least = sum;
                    walked = bits;
                }
                return;
            }
            int dayThen = world.day + passed;
            goOn(passed + 1, usedAfter(left, leftUsed, dayThen), usedAfter(right, rightUsed, dayThen), fares,
                bits | 1 << passed);
            goOn(passed + 1, leftUsed, rightUsed, fares + fare, bits);
        }
    }

    /** The rates, and the ring of them that gains: the shorter first, then by its goods. */
    private static final class Swaps {
        int rates;
        // By the good that goes times GOODS and the good that comes; 0: no such rate.
        final int[] given = new int[GOODS * GOODS];
        final int[] got = new int[GOODS * GOODS];
        final int[] path = new int[GOODS];

        void clear() {
            rates = 0;
            for (int i = 0; i < GOODS * GOODS; i++) {
                given[i] = 0;
                got[i] = 0;
            }
        }

        int findRing() {
            for (int length = 2; length <= GOODS; length++) {
                for (int first = 0; first < GOODS; first++) {
                    path[0] = first;
                    if (gains(1, length, 1 << first, 1, 1)) {
                        return length;
                    }
                }
            }
            return NOT_SO;
        }

        private boolean gains(int depth, int length, int visited, long gave, long took) {
            if (depth < 1 || depth > length || length > GOODS) {
                return false;
            }
            int row = path[depth - 1] * GOODS;
            if (depth == length) {
                int home = row + path[0];
                return got[home] > 0 && took * got[home] > gave * given[home];
            }
            // A ring is told from its least good on, so none below the first one comes.
            for (int next = path[0] + 1; next < GOODS; next++) {
                int rate = row + next;
                if ((visited >> next & 1) == 0 && got[rate] > 0) {
                    path[depth] = next;
                    if (gains(depth + 1, length, visited | 1 << next, gave * given[rate], took * got[rate])) {
                        return true;
                    }
                }
            }
            return false;
        }
    }
}
