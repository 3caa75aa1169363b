/** Caskets with lines on them, and the wooers that pick one; the promises stand in the project's document. */
public final class CasketLines {
    public static final int UNKNOWN = -1, OUTSIDE = -2, STATE = -3, FULL = -4, NONE = -9;

    private static final int MOST_LETTERS = 40;
    private static final int MOST_CASKETS = 4;
    private static final int MOST_WOOERS = 6;
    private static final int MOST_ACTS = 14;
    private static final int MOST_UNWED = 5;
    private static final int MOST_DOINGS = 4;
    private static final int MOST_HOUSES = 20;
    private static final int TENTHS = 10;

    private static final int SORTS = 6;
    /** How many numbers a line's a may be. */
    private static final int NUMBERS = 4;
    /** A line is held as one number, NUMBERS * SORT + a, so that counting up goes by SORT, then by a. */
    private static final int LINES = SORTS * NUMBERS;
    private static final int METALS = 4;
    private static final int KINDS = 4;
    private static final int METAL = 1, REASONS = 2, CLEVER = 3;
    /** What TRUE is when any number of lines may be true. */
    private static final int ANY = 9;
    private static final int ALL_LINES = (1 << MOST_CASKETS) - 1;

    /** The figures by which judge is told of doings; mending it is not told of. */
    private static final int TRIED = 0, MOVED = 1, SUNG = 2, MENDED = 3;

    private static final int PRIZE = 12;
    private static final int COST = 2;

    private static final long SEED_FACTOR = 6364136223846793005L;
    private static final long SEED_STEP = 1442695040888963407L;

    private static final int[] FACTORIALS = {1, 1, 2, 6, 24};

    /*
     * A world is a casket that would hold the picture and a set of true lines: 4 times 16 of them, so
     * that the 64 bits of a long are a set of worlds, bit 16 * casket + set each. What a line says, and
     * what all lines allow, is then worked out for all worlds at once.
     */
    private static final long WORLDS_OF_ONE = 0xFFFFL;
    private static final int SETS = 16;
    /** By a line: the worlds in which it is true. */
    private static final long[] TRUE_LINE = {
        0xAAAAAAAAAAAAAAAAL, 0xCCCCCCCCCCCCCCCCL, 0xF0F0F0F0F0F0F0F0L, 0xFF00FF00FF00FF00L};
    /** By a number: the worlds in which so many lines are true. */
    private static final long[] TRUE_MANY = {
        0x0001000100010001L, 0x0116011601160116L, 0x1668166816681668L, 0x6880688068806880L, 0x8000800080008000L};
    /** By the number of caskets: the worlds that name no casket and no line beyond them. */
    private static final long[] WORLDS_OF = {0L, 0x3L, 0x000F000FL, 0x00FF00FF00FFL, -1L};

    private final int[] letters;
    private int length;
    private final Parser parser;
    private final House house;
    private final Standing now;
    /** Where doings are played through that must leave no trace. */
    private final Standing spare;
    private final ActRow acts;
    private final Slot slotZero;
    private final Slot slotOne;
    private long seedNow;

    public CasketLines() {
        letters = new int[MOST_LETTERS];
        parser = new Parser();
        house = new House();
        now = new Standing();
        spare = new Standing();
        acts = new ActRow();
        slotZero = new Slot();
        slotOne = new Slot();
    }

    // ---- the house

    public int write(int letter) {
        if (letter < 0 || letter > 255) {
            return OUTSIDE;
        }
        if (length >= MOST_LETTERS) {
            return FULL;
        }
        put(letters, length, letter);
        length++;
        return length;
    }

    public int wipe() {
        int was = length;
        length = 0;
        return was;
    }

    public int fault() {
        return parser.firstFault(letters, length);
    }

    public int house() {
        if (parser.firstFault(letters, length) != NONE) {
            return STATE;
        }
        house.copyFrom(parser.house);
        now.copyFrom(parser.standing);
        acts.size = 0;
        slotZero.filled = false;
        slotOne.filled = false;
        return 10 * house.caskets + house.wooers;
    }

    public int casket(int casket, int what) {
        if (!house.hasCasket(casket)) {
            return UNKNOWN;
        }
        switch (what) {
            case 0:
                return at(house.metals, casket);
            case 1:
                return at(now.lines, casket) / NUMBERS;
            case 2:
                return at(now.lines, casket) % NUMBERS;
            case 3:
                return now.sung >> casket & 1;
            case 4:
                return now.fitting(house) >> casket & 1;
            case 5:
                return Long.bitCount(now.readings(house) & worldsWith(casket));
            default:
                return OUTSIDE;
        }
    }

    public int wooer(int wooer, int what) {
        if (!house.hasWooer(wooer)) {
            return UNKNOWN;
        }
        switch (what) {
            case 0:
                return at(house.kinds, wooer);
            case 1:
                return house.pickOf(at(house.kinds, wooer), now.fitting(house), now.sung);
            case 2:
                return wooer < now.tried ? at(now.picked, wooer) : NONE;
            default:
                return OUTSIDE;
        }
    }

    // ---- acts

    public int attempt() {
        if (!now.mayTry(house)) {
            return STATE;
        }
        acts.add(TRIED, 0, 0);
        return now.tryNext(house);
    }

    public int mend(int casket, int sort, int a) {
        if (!house.hasCasket(casket)) {
            return UNKNOWN;
        }
        if (sort < 0 || sort >= SORTS || a < 0 || a >= NUMBERS) {
            return OUTSIDE;
        }
        int was = at(now.lines, casket);
        int line = NUMBERS * sort + a;
        if (was == line) {
            return STATE;
        }
        acts.add(MENDED, casket, was);
        put(now.lines, casket, line);
        return figuresOf(was);
    }

    public int move(int casket) {
        if (!house.hasCasket(casket)) {
            return UNKNOWN;
        }
        int was = now.picture;
        if (was == casket) {
            return STATE;
        }
        acts.add(MOVED, casket, was);
        now.picture = casket;
        return was;
    }

    public int sing(int casket) {
        if (!house.hasCasket(casket)) {
            return UNKNOWN;
        }
        acts.add(SUNG, casket, 0);
        now.turnSong(casket);
        return now.sung >> casket & 1;
    }

    public int undo() {
        if (acts.size <= 0) {
            return STATE;
        }
        acts.size--;
        now.takeBack(at(acts.doings, acts.size), at(acts.caskets, acts.size), at(acts.before, acts.size));
        return acts.size;
    }

    // ---- riddles

    public int lines(int casket, boolean every) {
        if (!house.hasCasket(casket)) {
            return UNKNOWN;
        }
        long with = now.readings(house) & worldsWith(casket);
        if (with == 0) {
            return NONE;
        }
        int bits = 0;
        for (int i = 0; i < MOST_CASKETS && i < house.caskets; i++) {
            long holding = with & maskAt(TRUE_LINE, i);
            if (every ? holding == with : holding != 0) {
                bits |= 1 << i;
            }
        }
        return bits;
    }

    public int riddle(int kinds, boolean row) {
        if (kinds < 0 || kinds >= 1 << KINDS) {
            return OUTSIDE;
        }
        if (now.picture == NONE) {
            return NONE;
        }
        int solving = solvingFits(kinds);
        if (solving == 0) {
            return NONE;
        }
        if ((solving >> now.fitting(house) & 1) == 1) {
            return 0;
        }
        int one = leastMending(solving, 0, -1L, 0);
        if (one != NONE) {
            return row ? one : 1;
        }
        int two = leastTwoMendings(solving);
        if (two != NONE) {
            return row ? two : 2;
        }
        return NONE;
    }

    /** By the set of caskets that fit, a bit: whether the told kinds, and only they, pick right then. */
    private int solvingFits(int kinds) {
        int solving = 0;
        for (int fits = 0; fits < 1 << MOST_CASKETS; fits++) {
            int right = 0;
            for (int kind = 0; kind < KINDS; kind++) {
                if (house.pickOf(kind, fits, now.sung) == now.picture) {
                    right |= 1 << kind;
                }
            }
            if (right == kinds) {
                solving |= 1 << fits;
            }
        }
        return solving;
    }

    /**
     * The least row of two mendings that solves; NONE. Rising caskets are enough: of two orders of the
     * same mendings the rising one is the lesser number. Nor is it looked whether a mending changes its
     * line: if it did not, one mending would have been found before.
     */
    private int leastTwoMendings(int solving) {
        for (int casket = 0; casket < MOST_CASKETS && casket < house.caskets; casket++) {
            for (int line = 0; line < LINES; line++) {
                long worlds = agreeing(casket, line);
                int rest = leastMending(solving, casket + 1, worlds, 1 << casket);
                if (rest != NONE) {
                    return 1000 * (100 * casket + figuresOf(line)) + rest;
                }
            }
        }
        return NONE;
    }

    /** The least mending that solves, on a casket from one on, when mended lines leave these worlds; NONE. */
    private int leastMending(int solving, int from, long worlds, int mended) {
        for (int casket = from; casket < MOST_CASKETS && casket < house.caskets; casket++) {
            int others = ALL_LINES & ~mended & ~(1 << casket);
            long left = worlds & readingsOf(house, now.lines, others);
            for (int line = 0; line < LINES; line++) {
                int fits = fitsOf(left & agreeing(casket, line));
                if ((solving >> fits & 1) == 1) {
                    return 100 * casket + figuresOf(line);
                }
            }
        }
        return NONE;
    }

    public int songs(int wooer) {
        if (!house.hasWooer(wooer)) {
            return UNKNOWN;
        }
        if (now.picture == NONE) {
            return NONE;
        }
        int kind = at(house.kinds, wooer);
        int fits = now.fitting(house);
        int best = NONE;
        int fewest = MOST_CASKETS + 1;
        for (int more = 0; more < 1 << house.caskets && more <= ALL_LINES; more++) {
            int many = Integer.bitCount(more);
            if (many < fewest && house.pickOf(kind, fits, now.sung | more) == now.picture) {
                best = more;
                fewest = many;
            }
        }
        return best;
    }

    public int said(int casket, boolean first) {
        if (!house.hasCasket(casket)) {
            return UNKNOWN;
        }
        // Only the first line may be NONE; how many there are is a number even without a picture.
        if (now.picture == NONE) {
            return first ? NONE : 0;
        }
        int many = 0;
        int least = NONE;
        long others = readingsOf(house, now.lines, ALL_LINES & ~(1 << casket));
        for (int line = 0; line < LINES; line++) {
            if (fitsOf(others & agreeing(casket, line)) == 1 << now.picture) {
                many++;
                least = least == NONE ? figuresOf(line) : least;
            }
        }
        return first ? least : many;
    }

    public int belief(int casket, int f, boolean upper) {
        if (!house.hasCasket(casket)) {
            return UNKNOWN;
        }
        if (f < 0 || f > MOST_UNWED) {
            return OUTSIDE;
        }
        int fits = now.fitting(house);
        int all = 0;
        for (int i = 0; i < MOST_CASKETS && i < house.caskets; i++) {
            all += weightOf(i, f, fits);
        }
        return partOf(weightOf(casket, f, fits), all, upper);
    }

    /** In how many ways, of 4 to the power f, so many wooers miss a casket; 0 if it does not fit. */
    private int weightOf(int casket, int f, int fits) {
        if ((fits >> casket & 1) == 0) {
            return 0;
        }
        int missing = 0;
        for (int kind = 0; kind < KINDS; kind++) {
            if (house.pickOf(kind, fits, now.sung) != casket) {
                missing++;
            }
        }
        return power(missing, f);
    }

    public int judge(int n, int row) {
        if (n < 1 || n > MOST_DOINGS) {
            return OUTSIDE;
        }
        int unit = power(100, n);
        if (row < 0 || row >= unit) {
            return OUTSIDE;
        }
        spare.copyFrom(now);
        for (int place = 0; place < n; place++) {
            unit = Math.max(1, unit / 100);
            int doing = row / unit % 100;
            if (!spare.couldDo(house, doing / 10, doing % 10)) {
                return place;
            }
        }
        return NONE;
    }

    // ---- shares, rests, chances

    public int share(int casket, boolean upper) {
        if (!house.hasCasket(casket)) {
            return UNKNOWN;
        }
        int sum = 0;
        for (int come = 0; come < 1 << house.caskets && come <= ALL_LINES; come++) {
            if ((come >> casket & 1) == 0) {
                int ahead = Integer.bitCount(come);
                int orders = at(FACTORIALS, ahead) * at(FACTORIALS, house.caskets - 1 - ahead);
                int before = Integer.bitCount(now.fittingBy(house, come));
                int behind = Integer.bitCount(now.fittingBy(house, come | 1 << casket));
                sum += orders * (before - behind);
            }
        }
        return partOf(sum, at(FACTORIALS, house.caskets), upper);
    }

    public int rests(int what) {
        if (what < 0 || what > 1) {
            return OUTSIDE;
        }
        int fits = now.fitting(house);
        int many = 0;
        int first = NONE;
        for (int one = 0; one <= house.caskets && one <= MOST_CASKETS; one++) {
            for (int other = 0; other <= house.caskets && other <= MOST_CASKETS; other++) {
                if (isBest(one, other, fits) && isBest(other, one, fits)) {
                    many++;
                    first = first == NONE ? 10 * one + other : first;
                }
            }
        }
        return what == 0 ? many : first;
    }

    private boolean isBest(int own, int other, int fits) {
        int had = gainOf(own, other, fits);
        for (int pick = 0; pick <= house.caskets && pick <= MOST_CASKETS; pick++) {
            if (gainOf(pick, other, fits) > had) {
                return false;
            }
        }
        return true;
    }

    private static int gainOf(int own, int other, int fits) {
        if (own == 0) {
            return 0;
        }
        int many = Integer.bitCount(fits);
        if (many == 0 || (fits >> (own - 1) & 1) == 0) {
            return -COST;
        }
        int prize = PRIZE / many;
        return (own == other ? prize / 2 : prize) - COST;
    }

    public int lost(int casket, int x, boolean upper) {
        if (!house.hasCasket(casket)) {
            return UNKNOWN;
        }
        if (x < 0 || x > TENTHS) {
            return OUTSIDE;
        }
        int sum = 0;
        for (int left = 0; left < 1 << house.caskets && left <= ALL_LINES; left++) {
            if (now.fittingBy(house, left) == 1 << casket) {
                int many = Integer.bitCount(left);
                sum += power(TENTHS - x, many) * power(x, house.caskets - many);
            }
        }
        return partOf(sum, power(TENTHS, house.caskets), upper);
    }

    public long seed(long v) {
        long was = seedNow;
        seedNow = v;
        return was;
    }

    public int houses(int m) {
        if (m < 1 || m > MOST_HOUSES) {
            return OUTSIDE;
        }
        spare.copyFrom(now);
        int together = 0;
        for (int i = 0; i < m; i++) {
            seedNow = seedNow * SEED_FACTOR + SEED_STEP;
            int drawn = (int) ((seedNow >>> 33) % (MOST_CASKETS * LINES));
            int casket = drawn / LINES;
            if (house.hasCasket(casket)) {
                put(spare.lines, casket, drawn % LINES);
            }
            together += Integer.bitCount(spare.fitting(house));
        }
        return together;
    }

    // ---- slots

    public int keep(int slot) {
        Slot kept = slotOf(slot);
        if (kept == null) {
            return UNKNOWN;
        }
        kept.standing.copyFrom(now);
        kept.filled = true;
        return now.tried;
    }

    public int again(int slot) {
        Slot kept = slotOf(slot);
        if (kept == null) {
            return UNKNOWN;
        }
        if (!kept.filled) {
            return STATE;
        }
        now.copyFrom(kept.standing);
        acts.size = 0;
        return now.tried;
    }

    public int count(int what) {
        switch (what) {
            case 0:
                return length;
            case 1:
                return house.caskets;
            case 2:
                return house.wooers;
            case 3:
                return house.truth;
            case 4:
                return now.picture;
            case 5:
                return now.fitting(house);
            case 6:
                return Long.bitCount(now.readings(house));
            case 7:
                return now.tried;
            case 8:
                return now.wed ? 1 : 0;
            case 9:
                return acts.size;
            default:
                return OUTSIDE;
        }
    }

    private Slot slotOf(int slot) {
        if (slot == 0) {
            return slotZero;
        }
        return slot == 1 ? slotOne : null;
    }

    // ---- what the lines allow

    private static long worldsWith(int casket) {
        return casket < 0 || casket >= MOST_CASKETS ? 0L : WORLDS_OF_ONE << SETS * casket;
    }

    /**
     * The worlds in which a line is true just if what it says is so. Whether there is a casket a need not
     * be looked at: the worlds of a house (WORLDS_OF) neither have the picture in one beyond its caskets
     * nor have a line true there, so what is said of it comes out as not so.
     */
    private static long agreeing(int casket, int line) {
        int sort = line / NUMBERS;
        int a = line % NUMBERS;
        long so;
        if (sort < 2) {
            so = worldsWith(casket);
        } else {
            so = sort < 4 ? worldsWith(a) : maskAt(TRUE_LINE, a);
        }
        // Of each two sorts the second denies what the first says.
        long says = sort % 2 == 0 ? so : ~so;
        return ~(says ^ maskAt(TRUE_LINE, casket));
    }

    /** The readings if only the lines that have come bind, and the others are true or false as they like. */
    private static long readingsOf(House house, int[] lines, int come) {
        long worlds = maskAt(WORLDS_OF, house.caskets);
        if (house.truth != ANY) {
            worlds &= maskAt(TRUE_MANY, house.truth);
        }
        for (int i = 0; i < lines.length && i < house.caskets; i++) {
            if ((come >> i & 1) == 1) {
                worlds &= agreeing(i, lines[i]);
            }
        }
        return worlds;
    }

    /** The caskets (bits) that some of these worlds have the picture in. */
    private static int fitsOf(long worlds) {
        int fits = 0;
        for (int casket = 0; casket < MOST_CASKETS; casket++) {
            if ((worlds & worldsWith(casket)) != 0) {
                fits |= 1 << casket;
            }
        }
        return fits;
    }

    // ---- numbers and rows

    /** A line as the calls tell it: 10 times SORT, and a. */
    private static int figuresOf(int line) {
        return 10 * (line / NUMBERS) + line % NUMBERS;
    }

    private static int power(int base, int exponent) {
        int product = 1;
        for (int i = 0; i < exponent; i++) {
            product *= base;
        }
        return product;
    }

    /** The upper or the lower part of a fraction in least terms; what has nothing below counts as 0. */
    private static int partOf(int above, int below, boolean upper) {
        if (above == 0 || below <= 0) {
            return upper ? 0 : 1;
        }
        int divisor = Math.max(1, commonDivisor(Math.abs(above), below));
        return (upper ? above : below) / divisor;
    }

    private static int commonDivisor(int one, int other) {
        int big = one;
        int small = other;
        for (int i = 0; i < 64 && small != 0; i++) {
            int rest = big % small;
            big = small;
            small = rest;
        }
        return big;
    }

    private static int at(int[] row, int place) {
        return place >= 0 && place < row.length ? row[place] : 0;
    }

    private static long maskAt(long[] row, int place) {
        return place >= 0 && place < row.length ? row[place] : 0L;
    }

    private static void put(int[] row, int place, int value) {
        if (place >= 0 && place < row.length) {
            row[place] = value;
        }
    }

    private static void copyRow(int[] from, int[] to) {
        for (int i = 0; i < from.length && i < to.length; i++) {
            to[i] = from[i];
        }
    }

    /** What no act changes. */
    private static final class House {
        int truth = ANY;
        int caskets;
        int wooers;
        final int[] metals = new int[MOST_CASKETS];
        final int[] kinds = new int[MOST_WOOERS];

        boolean hasCasket(int casket) {
            return casket >= 0 && casket < caskets;
        }

        boolean hasWooer(int wooer) {
            return wooer >= 0 && wooer < wooers;
        }

        void copyFrom(House other) {
            truth = other.truth;
            caskets = other.caskets;
            wooers = other.wooers;
            copyRow(other.metals, metals);
            copyRow(other.kinds, kinds);
        }

        /** What one of a kind picks, by the caskets (bits) that fit and those that are sung. */
        int pickOf(int kind, int fits, int sung) {
            int open = (1 << caskets) - 1 & ~sung;
            int fitting = open & fits;
            if (kind == METAL) {
                return dearestOf(open);
            }
            if (kind == REASONS && fitting != 0) {
                return leastOf(fitting);
            }
            if (kind == CLEVER && fitting != 0) {
                return greatestOf(fitting);
            }
            return leastOf(open);
        }

        private int dearestOf(int open) {
            int best = NONE;
            int dearest = METALS;
            for (int i = 0; i < metals.length; i++) {
                if ((open >> i & 1) == 1 && metals[i] < dearest) {
                    best = i;
                    dearest = metals[i];
                }
            }
            return best;
        }

        private static int leastOf(int bits) {
            for (int i = 0; i < MOST_CASKETS; i++) {
                if ((bits >> i & 1) == 1) {
                    return i;
                }
            }
            return NONE;
        }

        private static int greatestOf(int bits) {
            for (int i = MOST_CASKETS - 1; i >= 0; i--) {
                if ((bits >> i & 1) == 1) {
                    return i;
                }
            }
            return NONE;
        }
    }

    /** What acts change, and slots keep. */
    private static final class Standing {
        final int[] lines = new int[MOST_CASKETS];
        int picture = NONE;
        /** Caskets, as bits. */
        int sung;
        int tried;
        /** She may be wed and the picture moved away behind it, so it can't be told from the picks. */
        boolean wed;
        /** Only the places below tried tell anything. */
        final int[] picked = new int[MOST_WOOERS];

        void copyFrom(Standing other) {
            copyRow(other.lines, lines);
            picture = other.picture;
            sung = other.sung;
            tried = other.tried;
            wed = other.wed;
            copyRow(other.picked, picked);
        }

        long readings(House house) {
            return readingsOf(house, lines, ALL_LINES);
        }

        int fitting(House house) {
            return fitsOf(readingsOf(house, lines, ALL_LINES));
        }

        int fittingBy(House house, int come) {
            return fitsOf(readingsOf(house, lines, come));
        }

        boolean mayTry(House house) {
            return !wed && tried < house.wooers;
        }

        int tryNext(House house) {
            int pick = house.pickOf(at(house.kinds, tried), fitting(house), sung);
            put(picked, tried, pick);
            tried++;
            wed = pick != NONE && pick == picture;
            return pick;
        }

        void turnSong(int casket) {
            sung ^= 1 << casket;
        }

        /** Does what two figures tell; false if it can not be. */
        boolean couldDo(House house, int doing, int casket) {
            if (doing == TRIED) {
                if (casket != 0 || !mayTry(house)) {
                    return false;
                }
                tryNext(house);
                return true;
            }
            if (!house.hasCasket(casket)) {
                return false;
            }
            if (doing == MOVED) {
                boolean elsewhere = picture != casket;
                picture = casket;
                return elsewhere;
            }
            if (doing == SUNG) {
                turnSong(casket);
                return true;
            }
            return false;
        }

        void takeBack(int doing, int casket, int before) {
            switch (doing) {
                case TRIED:
                    tried = Math.max(0, tried - 1);
                    wed = false;
                    break;
                case MENDED:
                    put(lines, casket, before);
                    break;
                case MOVED:
                    picture = before;
                    break;
                default:
                    turnSong(casket);
                    break;
            }
        }
    }

    private static final class Slot {
        final Standing standing = new Standing();
        boolean filled;
    }

    /** The acts that can be undone, each with what was there before it. */
    private static final class ActRow {
        int size;
        final int[] doings = new int[MOST_ACTS];
        final int[] caskets = new int[MOST_ACTS];
        final int[] before = new int[MOST_ACTS];

        void add(int doing, int casket, int was) {
            if (size >= MOST_ACTS) {
                forgetFirst(doings);
                forgetFirst(caskets);
                forgetFirst(before);
                size = MOST_ACTS - 1;
            }
            put(doings, size, doing);
            put(caskets, size, casket);
            put(before, size, was);
            size++;
        }

        private static void forgetFirst(int[] row) {
            for (int i = 1; i < row.length; i++) {
                row[i - 1] = row[i];
            }
        }
    }

    /** Reads a text letter by letter into a house of its own, so that a fault leaves the other one as it is. */
    private static final class Parser {
        private static final int OPENING = 0, TRUTH = 1, PART = 2, OF_METAL = 3, OF_SORT = 4, OF_A = 5, OF_KIND = 6;

        final House house = new House();
        final Standing standing = new Standing();
        /** What the next letter must tell. */
        private int wanted;
        private int sort;

        int firstFault(int[] letters, int length) {
            begin();
            for (int i = 0; i < length && i < letters.length; i++) {
                if (!takes(letters[i])) {
                    return i;
                }
            }
            return wanted == PART ? NONE : length;
        }

        private void begin() {
            wanted = OPENING;
            house.truth = ANY;
            house.caskets = 0;
            house.wooers = 0;
            standing.picture = NONE;
            standing.sung = 0;
            standing.tried = 0;
            standing.wed = false;
        }

        private boolean takes(int letter) {
            int figure = letter - '0';
            switch (wanted) {
                case OPENING:
                    wanted = TRUTH;
                    return letter == 'G';
                case TRUTH:
                    house.truth = figure;
                    wanted = PART;
                    return figure == ANY || isBelow(figure, MOST_CASKETS + 1);
                case PART:
                    return opensPart(letter);
                case OF_METAL:
                    put(house.metals, house.caskets, figure);
                    wanted = OF_SORT;
                    return isBelow(figure, METALS);
                case OF_SORT:
                    sort = figure;
                    wanted = OF_A;
                    return isBelow(figure, SORTS);
                case OF_A:
                    put(standing.lines, house.caskets, NUMBERS * sort + figure);
                    house.caskets++;
                    wanted = PART;
                    return isBelow(figure, NUMBERS);
                default:
                    put(house.kinds, house.wooers, figure);
                    house.wooers++;
                    wanted = PART;
                    return isBelow(figure, KINDS);
            }
        }

        private boolean opensPart(int letter) {
            if (letter == 'W') {
                wanted = OF_KIND;
                return house.wooers < MOST_WOOERS;
            }
            wanted = OF_METAL;
            if (house.caskets >= MOST_CASKETS) {
                return false;
            }
            if (letter == 'D' && standing.picture == NONE) {
                standing.picture = house.caskets;
                return true;
            }
            return letter == 'C';
        }

        private static boolean isBelow(int figure, int bound) {
            return figure >= 0 && figure < bound;
        }
    }
}
