import java.math.BigInteger;

/** Promises 19 to 23: each sentence that names an edge, by what stands just inside it and just outside. */
public final class ChanceEdgesTest {
    private static final int UNKNOWN = Made.UNKNOWN, OUTSIDE = Made.OUTSIDE;
    private static final int LEAST = Integer.MIN_VALUE, GREATEST = Integer.MAX_VALUE;

    private static final BigInteger BITS_64 = BigInteger.ONE.shiftLeft(64);
    private static final BigInteger FACTOR = new BigInteger("6364136223846793005");
    private static final BigInteger STEP = new BigInteger("1442695040888963407");
    private static final long LOW_BITS = (1L << 33) - 1;
    private static final long[] SEEDS = {
        0, 1, -1, 2, -2, Long.MAX_VALUE, Long.MIN_VALUE, Long.MAX_VALUE - 1, Long.MIN_VALUE + 1, 1L << 33, -1L << 33};

    public static void main(String[] args) {
        shareUnknown();
        shareOfNoneAndOfAll();
        shareInLeastTerms();
        shareOfOneCasket();
        restsWhat();
        restsByHowManyFit();
        lostUnknown();
        lostOutside();
        lostByNoTenthsAndByTen();
        lostInLeastTerms();
        lostOfOneCasket();
        seedAtFirst();
        seedTakesEveryLong();
        seedStays();
        housesHowMany();
        housesWrapAround();
        housesStepByStep();
        housesDrawEveryLine();
        housesUpperBits();
        housesWithoutSuchACasket();
        housesLinesStayFromThenOn();
        housesChangeNothingElse();
        asksChangeNothing();
        Due.end();
    }

    private static void is(String call, long want, long got) {
        Due.is(call, want, got);
    }

    // ---- 19 "SHARE. UNKNOWN."

    private static void share(CasketLines x, int casket, int above, int below) {
        is("19: share(" + casket + ") above", above, x.share(casket, true));
        is("19: share(" + casket + ") below", below, x.share(casket, false));
    }

    private static void shareUnknown() {
        for (int c : Made.NOT_OF_THREE) {
            Due.changesNothing("19: share(" + c + ", true)", UNKNOWN, Made::busy, x -> x.share(c, true));
            Due.changesNothing("19: share(" + c + ", false)", UNKNOWN, Made::busy, x -> x.share(c, false));
            share(Made.noReading(), c, UNKNOWN, UNKNOWN);
        }
        for (int c : Made.NOT_OF_FOUR) {
            Due.changesNothing("19: share(" + c + ", true), full", UNKNOWN, Made::full, x -> x.share(c, true));
        }
    }

    private static void shareOfNoneAndOfAll() {
        // A line that calls itself false shuts out all; where it has come, nothing is left to the others.
        CasketLines x = Due.housed("G9C000C000C000C053");
        share(x, 0, 0, 1);
        share(x, 2, 0, 1);
        share(x, 3, 4, 1);
        CasketLines both = Due.housed("G9C050C051");
        share(both, 0, 1, 1);
        share(both, 1, 1, 1);
    }

    private static void shareInLeastTerms() {
        int[][] due = {{1, 12}, {35, 12}, {5, 12}, {7, 12}};
        CasketLines x = Due.housed("G3C311D351C143C000");
        for (int c = 0; c < 4; c++) {
            share(x, c, due[c][0], due[c][1]);
        }
        share(Made.noReading(), 0, 5, 6);
        share(Made.twoTrue(), 0, 1, 3);
        share(Due.housed("G2D011C350"), 0, 1, 2);
        share(Due.housed("G2D011C350"), 1, 3, 2);
    }

    private static void shareOfOneCasket() {
        share(Due.housed("G0C033"), 0, 1, 1);
        share(Due.housed("G1C033"), 0, 0, 1);
        share(Due.housed("G2C033"), 0, 0, 1);
        share(Due.housed("G9C050"), 0, 1, 1);
    }

    // ---- 20 "RESTS: how many (what = 0), the first (1). OUTSIDE."

    private static void restsWhat() {
        for (int what : new int[] {-1, 2, 3, LEAST, GREATEST}) {
            Due.changesNothing("20: rests(" + what + ")", OUTSIDE, Made::busy, x -> x.rests(what));
            is("20: rests(" + what + "), new", OUTSIDE, Made.fresh().rests(what));
        }
    }

    private static void rests(String text, int fits, int many, int first) {
        CasketLines x = Due.housed(text);
        is("20: what fits in " + text, fits, x.count(5));
        is("20: rests(0) of " + text, many, x.rests(0));
        is("20: rests(1) of " + text, first, x.rests(1));
    }

    /** From none that fits, where neither picks, to all four. */
    private static void restsByHowManyFit() {
        rests("G9", 0, 1, 0);
        rests("G9C050", 0, 1, 0);
        rests("G9C000C000C000C053", 0, 1, 0);
        rests("G9C000", 1, 1, 11);
        rests("G4C030C031C032C032", 8, 1, 44);
        rests("G4C030C031C031C031", 12, 2, 34);
        rests("G4C030C030C030C030", 14, 6, 23);
        rests("G9C000C000C000C000", 15, 12, 12);
    }

    // ---- 21 "LOST. UNKNOWN; OUTSIDE: x."

    private static void lost(CasketLines x, int casket, int tenths, int above, int below) {
        is("21: lost(" + casket + ", " + tenths + ") above", above, x.lost(casket, tenths, true));
        is("21: lost(" + casket + ", " + tenths + ") below", below, x.lost(casket, tenths, false));
    }

    private static void lostUnknown() {
        for (int c : Made.NOT_OF_THREE) {
            for (int tenths : new int[] {0, 11, -1}) {
                Due.changesNothing("21: lost(" + c + ", " + tenths + ", true)", UNKNOWN, Made::busy,
                    x -> x.lost(c, tenths, true));
                lost(Made.busy(), c, tenths, UNKNOWN, UNKNOWN);
            }
        }
        for (int c : Made.NOT_OF_FOUR) {
            Due.changesNothing("21: lost(" + c + ", 5, false), full", UNKNOWN, Made::full, x -> x.lost(c, 5, false));
        }
    }

    private static void lostOutside() {
        for (int tenths : new int[] {-1, 11, 12, 100, LEAST, GREATEST}) {
            for (int c = 0; c < 3; c++) {
                int casket = c;
                Due.changesNothing("21: lost(" + c + ", " + tenths + ", true)", OUTSIDE, Made::busy,
                    x -> x.lost(casket, tenths, true));
                lost(Made.busy(), c, tenths, OUTSIDE, OUTSIDE);
                lost(Made.noReading(), c, tenths, OUTSIDE, OUTSIDE);
            }
        }
    }

    /** "by x tenths (0 to 10)". */
    private static void lostByNoTenthsAndByTen() {
        // All are true: "not in 1" twice, "not in 2", "not in 3".
        CasketLines x = Due.housed("G4C031C032C033C031");
        lost(x, 0, 0, 1, 1);
        lost(x, 0, 10, 0, 1);
        lost(x, 1, 0, 0, 1);
        lost(x, 1, 10, 0, 1);
        lost(x, 3, 5, 0, 1);
    }

    private static void lostInLeastTerms() {
        // (1 - x x) (1 - x) (1 - x), by ten thousandths.
        CasketLines x = Due.housed("G4C031C032C033C031");
        int[][] due = {{1, 1}, {8019, 10000}, {384, 625}, {4459, 10000}, {189, 625}, {3, 16}, {64, 625}, {459, 10000},
            {9, 625}, {19, 10000}, {0, 1}};
        for (int tenths = 0; tenths <= 10; tenths++) {
            lost(x, 0, tenths, due[tenths][0], due[tenths][1]);
        }
    }

    private static void lostOfOneCasket() {
        for (int tenths = 0; tenths <= 10; tenths++) {
            lost(Due.housed("G9C000"), 0, tenths, 1, 1);
            lost(Due.housed("G2C000"), 0, tenths, 0, 1);
        }
        // It calls itself false: the casket fits just if the line is lost.
        int[][] due = {{0, 1}, {1, 10}, {1, 5}, {3, 10}, {2, 5}, {1, 2}, {3, 5}, {7, 10}, {4, 5}, {9, 10}, {1, 1}};
        for (int tenths = 0; tenths <= 10; tenths++) {
            lost(Due.housed("G9C050"), 0, tenths, due[tenths][0], due[tenths][1]);
        }
    }

    // ---- 22 "THE SEED is v: what it was."

    /** "(THE SEED, a long; 0 at first)". */
    private static void seedAtFirst() {
        is("22: at first", 0, Made.fresh().seed(5));
        is("22: at first, with a house", 0, Made.twoTrue().seed(5));
        CasketLines x = Made.fresh();
        x.houses(1);
        is("22: one step from 0", 1442695040888963407L, x.seed(0));
    }

    private static void seedTakesEveryLong() {
        CasketLines x = Made.fresh();
        long was = 0;
        for (long seed : SEEDS) {
            is("22: seed(" + seed + ")", was, x.seed(seed));
            was = seed;
        }
        is("22: the last one", was, x.seed(was));
    }

    private static void seedStays() {
        CasketLines x = Made.busy();
        x.keep(1);
        x.seed(Long.MIN_VALUE);
        x.undo();
        x.again(1);
        x.house();
        x.wipe();
        is("22: behind slots, a house, a wiped text", Long.MIN_VALUE, x.seed(0));
    }

    // ---- 23 "HOUSES. OUTSIDE: m."

    private static long next(long seed) {
        return BigInteger.valueOf(seed).multiply(FACTOR).add(STEP).mod(BITS_64).longValue();
    }

    /** The seed of which the next one is x. */
    private static long before(long x) {
        return BigInteger.valueOf(x).subtract(STEP).multiply(FACTOR.modInverse(BITS_64)).mod(BITS_64).longValue();
    }

    /** "its upper 31 bits by 96, what is left". */
    private static int drawnBy(long x) {
        BigInteger bits = BigInteger.valueOf(x).mod(BITS_64).shiftRight(33);
        return bits.mod(BigInteger.valueOf(96)).intValue();
    }

    private static int fitsWith(String text, int drawn) {
        CasketLines x = Due.housed(text);
        x.mend(drawn / 24, drawn % 24 / 4, drawn % 4);
        return Integer.bitCount(x.count(5));
    }

    /** "m times (1 to 20)". */
    private static void housesHowMany() {
        for (int m : new int[] {0, 21, -1, 22, LEAST, GREATEST}) {
            Due.changesNothing("23: houses(" + m + "), new", OUTSIDE, Made::fresh, x -> x.houses(m));
            Due.changesNothing("23: houses(" + m + "), busy", OUTSIDE, Made::busy, x -> x.houses(m));
        }
        for (int m = 1; m <= 20; m++) {
            CasketLines x = Due.housed("G9C000");
            long seed = 0;
            int together = 0;
            int now = 1;
            for (int i = 0; i < m; i++) {
                seed = next(seed);
                now = drawnBy(seed) < 24 ? fitsWith("G9C000", drawnBy(seed)) : now;
                together += now;
            }
            is("23: houses(" + m + ")", together, x.houses(m));
            is("23: the seed, " + m + " steps on", seed, x.seed(0));
        }
    }

    /** "(64 bits, wrapping)". */
    private static void housesWrapAround() {
        for (long seed : SEEDS) {
            CasketLines x = Made.fresh();
            x.seed(seed);
            x.houses(1);
            is("23: one step on from " + seed, next(seed), x.seed(seed));
            x.houses(20);
            long due = seed;
            for (int i = 0; i < 20; i++) {
                due = next(due);
            }
            is("23: twenty steps on from " + seed, due, x.seed(0));
        }
    }

    private static void housesStepByStep() {
        CasketLines one = Made.noCaskets();
        CasketLines many = Made.noCaskets();
        for (int i = 0; i < 20; i++) {
            is("23: houses(1), no caskets", 0, one.houses(1));
        }
        is("23: houses(20), no caskets", 0, many.houses(20));
        is("23: the seed goes on without caskets too", one.seed(0), many.seed(0));
    }

    /** From 0 (casket 0, sort 0, a 0) to 95 (casket 3, sort 5, a 3), and 96, which is 0 again. */
    private static void housesDrawEveryLine() {
        String[] texts = {"G1C000C000C000C000", "G2C000C000C000C000", "G9C010C321C052C040"};
        for (String text : texts) {
            for (int drawn = 0; drawn <= 96; drawn++) {
                CasketLines x = Due.housed(text);
                x.seed(before((long) drawn << 33));
                is("23: " + drawn + " is drawn in " + text, fitsWith(text, drawn % 96), x.houses(1));
            }
        }
        CasketLines x = Due.housed("G1C000C000C000C000");
        x.seed(before(0));
        is("23: the least draw is the line that is there", 4, x.houses(1));
        x.seed(before(95L << 33));
        is("23: the greatest draw calls itself false", 0, x.houses(1));
    }

    private static void housesUpperBits() {
        // All 31 bits set are 31 beyond a multiple of 96: on casket 1, "it is not here".
        CasketLines x = Due.housed("G2C000C000C000C000");
        x.seed(before(-1));
        is("23: all bits set", 3, x.houses(1));
        is("23: the seed is -1 then", -1, x.seed(0));
        x.seed(before(Long.MIN_VALUE));
        is("23: the upper bit alone", fitsWith("G2C000C000C000C000", (1 << 30) % 96), x.houses(1));
        CasketLines low = Due.housed("G1C000C000C000C000");
        low.seed(before(95L << 33 | LOW_BITS));
        is("23: the lower 33 bits do not count", 0, low.houses(1));
        low.seed(before(LOW_BITS));
        is("23: the lower 33 bits alone", 4, low.houses(1));
        low.seed(before((1L << 33) * 96 + 95));
        is("23: 96 is 0 again", 4, low.houses(1));
    }

    /** "its LINE is so from then on, if there is such a CASKET". */
    private static void housesWithoutSuchACasket() {
        CasketLines x = Made.twoTrue();
        for (int drawn = 72; drawn < 96; drawn++) {
            x.seed(before((long) drawn << 33));
            is("23: no casket 3, " + drawn + " is drawn", 2, x.houses(1));
        }
        CasketLines one = Due.housed("G9C000");
        one.seed(before(24L << 33));
        is("23: no casket 1", 1, one.houses(1));
        one.seed(before(20L << 33));
        is("23: casket 0, it calls itself false", 0, one.houses(1));
    }

    private static void housesLinesStayFromThenOn() {
        String text = "G1C000C000C000C000";
        // First "the line on 3 is false" on casket 3, then a line that casket 0 has already.
        long first = 95L << 33;
        while (drawnBy(next(first)) > 3) {
            first++;
        }
        CasketLines together = Due.housed(text);
        together.seed(before(first));
        is("23: houses(2), what is drawn first stays", 0, together.houses(2));
        CasketLines apart = Due.housed(text);
        apart.seed(before(first));
        is("23: houses(1)", 0, apart.houses(1));
        is("23: houses(1) once more begins with the lines that are", 4, apart.houses(1));
    }

    /** "(Nothing changes but THE SEED.)" */
    private static void housesChangeNothingElse() {
        Due.Making[] makings = {Made::fresh, Made::busy, Made::full, Made::wed};
        for (Due.Making making : makings) {
            CasketLines drawn = making.make();
            CasketLines other = making.make();
            drawn.houses(20);
            drawn.seed(0);
            other.seed(0);
            Due.same("23: houses(20), but for the seed", Due.trail(other), Due.trail(drawn));
        }
    }

    private static void asksChangeNothing() {
        Due.changesNothing("19: share above", 1, Made::twoTrue, x -> x.share(0, true));
        Due.changesNothing("19: share below", 6, Made::busy, x -> x.share(0, false));
        Due.changesNothing("20: rests(0)", 1, Made::busy, x -> x.rests(0));
        Due.changesNothing("20: rests(1)", 33, Made::busy, x -> x.rests(1));
        Due.changesNothing("21: lost", 1, Made::busy, x -> x.lost(2, 0, true));
        Due.changesNothing("22: seed as it was", 77, Made::busy, x -> x.seed(77));
    }
}
