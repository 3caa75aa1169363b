/** Objects brought to the places where edges are looked at: nothing there, all there, in between. */
final class Made {
    static final int UNKNOWN = -1, OUTSIDE = -2, STATE = -3, FULL = -4, NONE = -9;

    /**
     * Lines: 0 "it is here", 1 "it is not here", 2 "it is in casket 2". By where it is, true are lines
     * 0 and 1 (casket 0), none (casket 1), 1 and 2 (casket 2).
     */
    static final String LINES = "C000D110C222";
    static final String WOOERS = "W0W1W2W3";
    static final String TWO_TRUE = "G2" + LINES + WOOERS;
    static final String ANY_TRUE = "G9" + LINES + WOOERS;
    /** All that a house can hold; its last line calls itself true, so that it may be either. */
    static final String LARGEST = "G9C300D211C122C043W0W1W2W3W2W1";

    /** A step and a leap outside three caskets, and numbers that a shift would take for one of them. */
    static final int[] NOT_OF_THREE = {-1, 3, 4, 31, 32, 33, 64, -32, -9, Integer.MIN_VALUE, Integer.MAX_VALUE};
    static final int[] NOT_OF_FOUR = {-1, 4, 5, 32, Integer.MIN_VALUE, Integer.MAX_VALUE};

    private Made() {
    }

    static CasketLines fresh() {
        return new CasketLines();
    }

    /** A house without a part. */
    static CasketLines bare() {
        return Due.housed("G9");
    }

    static CasketLines noCaskets() {
        return Due.housed("G9" + WOOERS);
    }

    static CasketLines noWooers() {
        return Due.housed("G2" + LINES);
    }

    static CasketLines noPicture() {
        return Due.housed("G2C000C110C222" + WOOERS);
    }

    /** One line is to be true, and wherever the picture is, two are or none; the last casket is the dearest. */
    static CasketLines noReading() {
        return Due.housed("G1C200D110C022" + WOOERS);
    }

    static CasketLines twoTrue() {
        return Due.housed(TWO_TRUE);
    }

    static CasketLines allSung() {
        CasketLines x = twoTrue();
        x.sing(0);
        x.sing(1);
        x.sing(2);
        return x;
    }

    /** She is wed, and three wooers are left. */
    static CasketLines wed() {
        CasketLines x = twoTrue();
        x.sing(0);
        x.attempt();
        return x;
    }

    /** Four acts, one slot of two, a seed, a text that is another house. The picture is in casket 2. */
    static CasketLines busy() {
        CasketLines x = twoTrue();
        x.seed(77);
        x.attempt();
        x.mend(2, 5, 3);
        x.keep(0);
        x.sing(2);
        x.move(2);
        x.wipe();
        Due.write(x, "G1D321W2");
        return x;
    }

    /** Forty letters, four caskets, six wooers that have all tried, fourteen acts and one forgotten, two slots. */
    static CasketLines full() {
        CasketLines x = Due.housed(LARGEST);
        x.move(2);
        x.keep(0);
        for (int i = 0; i < 6; i++) {
            x.attempt();
        }
        x.sing(3);
        x.sing(1);
        x.mend(0, 5, 1);
        x.mend(3, 2, 0);
        x.keep(1);
        x.sing(0);
        x.sing(3);
        x.sing(2);
        x.move(1);
        x.wipe();
        Due.write(x, LARGEST + "WWWWWWWWWW");
        return x;
    }
}
