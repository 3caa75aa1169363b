/** Promises 8 to 12: each sentence that names an edge, by what stands just inside it and just outside. */
public final class ActEdgesTest {
    private static final int UNKNOWN = Made.UNKNOWN, OUTSIDE = Made.OUTSIDE, STATE = Made.STATE, NONE = Made.NONE;

    public static void main(String[] args) {
        attemptOfTheLastWooer();
        attemptRefusedWithoutWooers();
        attemptRefusedWhenWed();
        attemptWeds();
        attemptOfNothing();
        mendTakesEverySortAndA();
        mendUnknown();
        mendOutside();
        mendItIsThat();
        moveUnknown();
        moveItIsThere();
        moveFromNowhere();
        moveAnywhere();
        singUnknown();
        singOnAndOff();
        singOfThePicture();
        undoRefused();
        undoOfEachAct();
        undoOfFourteen();
        undoOfAForgottenAct();
        undoOfAForgottenAttempt();
        undoMakesRoom();
        refusedActsAreNoActs();
        Due.end();
    }

    private static void is(String call, long want, long got) {
        Due.is(call, want, got);
    }

    // ---- 8 "TRIED: what is PICKED; NONE. STATE: no WOOER is left, or she is WED."

    private static void attemptOfTheLastWooer() {
        CasketLines x = Due.housed(Made.LARGEST);
        x.move(2);
        int[] picks = {0, 3, 0, 3, 0, 3};
        for (int w = 0; w < 6; w++) {
            is("8: attempt() of " + w, picks[w], x.attempt());
            is("8: tried", w + 1, x.count(7));
            is("8: wooer(" + w + ", 2)", picks[w], x.wooer(w, 2));
        }
        is("8: not wed", 0, x.count(8));
        is("8: no wooer is left", STATE, x.attempt());
        is("8: tried, of six", 6, x.count(7));
        is("8: the last one undone", 6, x.undo());
        is("8: the last one once more", 3, x.attempt());
    }

    private static void attemptRefusedWithoutWooers() {
        Due.changesNothing("8: attempt(), new", STATE, Made::fresh, CasketLines::attempt);
        Due.changesNothing("8: attempt(), no parts", STATE, Made::bare, CasketLines::attempt);
        Due.changesNothing("8: attempt(), no wooers", STATE, Made::noWooers, CasketLines::attempt);
        Due.changesNothing("8: attempt(), all have tried", STATE, Made::full, CasketLines::attempt);
    }

    private static void attemptRefusedWhenWed() {
        Due.changesNothing("8: attempt(), wed", STATE, Made::wed, CasketLines::attempt);
        CasketLines x = Made.wed();
        is("8: moved away", 1, x.move(2));
        is("8: attempt(), wed and moved away", STATE, x.attempt());
        is("8: wed all the same", 1, x.count(8));
        is("8: undone the move", 2, x.undo());
        is("8: attempt(), wed as before", STATE, x.attempt());
        is("8: undone the attempt", 1, x.undo());
        is("8: not wed", 0, x.count(8));
        is("8: tried", 0, x.count(7));
        is("8: attempt() once more", 1, x.attempt());
        is("8: wed once more", 1, x.count(8));
    }

    /** "if the PICTURE is there, she is WED .. else it leaves UNWED". */
    private static void attemptWeds() {
        CasketLines x = Due.housed("G9D300C000W1W0W0");
        is("8: beside it", 1, x.attempt());
        is("8: unwed", 0, x.count(8));
        is("8: the first casket", 0, x.attempt());
        is("8: wed by casket 0", 1, x.count(8));
        is("8: tried", 2, x.count(7));
        is("8: the third one does not try", STATE, x.attempt());
        CasketLines last = Due.housed("G9C300C200C100D000W1");
        is("8: the last casket", 3, last.attempt());
        is("8: wed by casket 3", 1, last.count(8));
        CasketLines moved = Due.housed("G9C000D000W0");
        moved.attempt();
        moved.move(0);
        is("8: moved to what was picked, not wed", 0, moved.count(8));
    }

    private static void attemptOfNothing() {
        CasketLines x = Made.allSung();
        is("8: attempt(), all sung", NONE, x.attempt());
        is("8: tried all the same", 1, x.count(7));
        is("8: not wed", 0, x.count(8));
        is("8: an act", 4, x.count(9));
        is("8: undone", 3, x.undo());
        is("8: has not tried", 0, x.count(7));
    }

    // ---- 9 "MENDED: what it was (10 times SORT, and a). UNKNOWN; OUTSIDE: sort (0 to 5), a (0 to 3); STATE: it is that."

    private static void mendTakesEverySortAndA() {
        CasketLines x = Due.housed("G9C000C000C000C053");
        int was = 53;
        for (int sort = 0; sort <= 5; sort++) {
            for (int a = 0; a <= 3; a++) {
                is("9: mend(3, " + sort + ", " + a + ")", was, x.mend(3, sort, a));
                is("9: sort", sort, x.casket(3, 1));
                is("9: a", a, x.casket(3, 2));
                was = 10 * sort + a;
            }
        }
        is("9: the others stay", 0, x.casket(2, 1));
        is("9: it is that, the last one", STATE, x.mend(3, 5, 3));
    }

    private static void mendUnknown() {
        int[][] lines = {{0, 0}, {6, 0}, {0, 4}, {-1, -1}};
        for (int c : Made.NOT_OF_THREE) {
            for (int[] line : lines) {
                Due.changesNothing("9: mend(" + c + ", " + line[0] + ", " + line[1] + ")", UNKNOWN, Made::busy,
                    x -> x.mend(c, line[0], line[1]));
            }
        }
        for (int c : Made.NOT_OF_FOUR) {
            Due.changesNothing("9: mend(" + c + ", 5, 3), full", UNKNOWN, Made::full, x -> x.mend(c, 5, 3));
        }
        Due.changesNothing("9: mend(0, 0, 0), no caskets", UNKNOWN, Made::noCaskets, x -> x.mend(0, 0, 0));
    }

    private static void mendOutside() {
        // Casket 1 is of sort 1 and a 0: some of these would be that, if sort and a were taken as one number.
        int[][] wrong = {{-1, 0}, {6, 0}, {0, -1}, {0, 4}, {1, 4}, {5, 4}, {6, 3}, {6, -1}, {-1, 4}, {2, -4}, {2, -10},
            {0, 10}, {Integer.MIN_VALUE, 0}, {Integer.MAX_VALUE, 0}, {0, Integer.MIN_VALUE}, {0, Integer.MAX_VALUE},
            {1 << 30, 0}, {1, 1 << 30}};
        for (int[] line : wrong) {
            for (int c = 0; c < 3; c++) {
                int casket = c;
                Due.changesNothing("9: mend(" + c + ", " + line[0] + ", " + line[1] + ")", OUTSIDE, Made::busy,
                    x -> x.mend(casket, line[0], line[1]));
            }
        }
        Due.changesNothing("9: mend(3, 6, 0), full", OUTSIDE, Made::full, x -> x.mend(3, 6, 0));
        Due.changesNothing("9: mend(3, 0, 4), full", OUTSIDE, Made::full, x -> x.mend(3, 0, 4));
    }

    private static void mendItIsThat() {
        Due.changesNothing("9: mend(0, 0, 0), it is that", STATE, Made::busy, x -> x.mend(0, 0, 0));
        Due.changesNothing("9: mend(1, 1, 0), it is that", STATE, Made::busy, x -> x.mend(1, 1, 0));
        Due.changesNothing("9: mend(2, 5, 3), it is that", STATE, Made::busy, x -> x.mend(2, 5, 3));
        Due.changesNothing("9: mend(3, 2, 0), it is that", STATE, Made::full, x -> x.mend(3, 2, 0));
        CasketLines x = Made.busy();
        is("9: the same a, another sort", 53, x.mend(2, 4, 3));
        is("9: the same sort, another a", 43, x.mend(2, 4, 2));
        is("9: back", 42, x.mend(2, 5, 3));
        // Sort 0 does not look at a, and yet it is another line.
        is("9: a line that says the same", 0, x.mend(0, 0, 3));
        is("9: that one", STATE, x.mend(0, 0, 3));
    }

    // ---- 10 "MOVED: where it was (NONE: nowhere). UNKNOWN; STATE: it is there."

    private static void moveUnknown() {
        for (int c : Made.NOT_OF_THREE) {
            Due.changesNothing("10: move(" + c + ")", UNKNOWN, Made::busy, x -> x.move(c));
            // The picture is nowhere, NONE: that is no casket where it could be.
            Due.changesNothing("10: move(" + c + "), no picture", UNKNOWN, Made::noPicture, x -> x.move(c));
        }
        for (int c : Made.NOT_OF_FOUR) {
            Due.changesNothing("10: move(" + c + "), full", UNKNOWN, Made::full, x -> x.move(c));
        }
        Due.changesNothing("10: move(0), no caskets", UNKNOWN, Made::noCaskets, x -> x.move(0));
    }

    private static void moveItIsThere() {
        Due.changesNothing("10: move(2), it is there", STATE, Made::busy, x -> x.move(2));
        Due.changesNothing("10: move(1), it is there", STATE, Made::full, x -> x.move(1));
        CasketLines x = Made.twoTrue();
        x.move(0);
        is("10: it is in the first one", STATE, x.move(0));
        x.undo();
        is("10: undone, it is there", STATE, x.move(1));
    }

    private static void moveFromNowhere() {
        CasketLines x = Made.noPicture();
        is("10: move(0) from nowhere", NONE, x.move(0));
        is("10: it is there", STATE, x.move(0));
        is("10: move(2)", 0, x.move(2));
        is("10: undo()", 1, x.undo());
        is("10: undo()", 0, x.undo());
        is("10: nowhere", NONE, x.count(4));
        is("10: move(1) from nowhere", NONE, x.move(1));
    }

    private static void moveAnywhere() {
        CasketLines x = Due.housed(Made.LARGEST);
        x.sing(0);
        is("10: into the first one, which is sung", 1, x.move(0));
        is("10: into the last one", 0, x.move(3));
        is("10: picture", 3, x.count(4));
        CasketLines wed = Made.wed();
        is("10: when she is wed", 1, wed.move(0));
    }

    // ---- 11 "SUNG: 1 if it is so then, 0. UNKNOWN."

    private static void singUnknown() {
        for (int c : Made.NOT_OF_THREE) {
            Due.changesNothing("11: sing(" + c + ")", UNKNOWN, Made::busy, x -> x.sing(c));
        }
        for (int c : Made.NOT_OF_FOUR) {
            Due.changesNothing("11: sing(" + c + "), full", UNKNOWN, Made::full, x -> x.sing(c));
        }
        Due.changesNothing("11: sing(0), no caskets", UNKNOWN, Made::noCaskets, x -> x.sing(0));
    }

    private static void singOnAndOff() {
        CasketLines x = Due.housed(Made.LARGEST);
        for (int c = 0; c < 4; c++) {
            is("11: sing(" + c + ")", 1, x.sing(c));
        }
        for (int c = 0; c < 4; c++) {
            is("11: sung, casket(" + c + ", 3)", 1, x.casket(c, 3));
            is("11: sing(" + c + ") once more", 0, x.sing(c));
            is("11: not any more, casket(" + c + ", 3)", 0, x.casket(c, 3));
        }
        is("11: each is an act", 8, x.count(9));
    }

    /** "(it may be, all the same)". */
    private static void singOfThePicture() {
        CasketLines x = Made.twoTrue();
        is("11: sing(1), where the picture is", 1, x.sing(1));
        is("11: it stays there", 1, x.count(4));
        is("11: what fits stays", 5, x.count(5));
        is("11: readings stay", 2, x.count(6));
    }

    // ---- 12 "The last ACT is undone: how many are left. STATE: there is none."

    private static void undoRefused() {
        Due.changesNothing("12: undo(), new", STATE, Made::fresh, CasketLines::undo);
        Due.changesNothing("12: undo(), a new house", STATE, Made::twoTrue, CasketLines::undo);
        CasketLines x = Made.busy();
        for (int left = 3; left >= 0; left--) {
            is("12: undo()", left, x.undo());
        }
        is("12: undo(), all undone", STATE, x.undo());
        is("12: undo() once more", STATE, x.undo());
        is("12: acts", 0, x.count(9));
        is("12: an act behind it", 1, x.sing(0));
        is("12: its undo()", 0, x.undo());
    }

    private static void undoOfEachAct() {
        CasketLines x = Made.twoTrue();
        Due.Call[] acts = {CasketLines::attempt, y -> y.mend(0, 3, 1), y -> y.move(2), y -> y.sing(2), y -> y.sing(2),
            y -> y.mend(0, 0, 1), y -> y.move(0), CasketLines::attempt};
        long[][] glances = new long[acts.length][];
        for (int i = 0; i < acts.length; i++) {
            glances[i] = Due.glance(x);
            acts[i].on(x);
            is("12: acts", i + 1, x.count(9));
        }
        is("12: wed by the last", 1, x.count(8));
        for (int left = acts.length - 1; left >= 0; left--) {
            is("12: undo()", left, x.undo());
            Due.same("12: undo() of act " + left, glances[left], Due.glance(x));
        }
    }

    /** "a row (14 at most; of more the first one is forgotten)". */
    private static void undoOfFourteen() {
        CasketLines x = Made.twoTrue();
        x.move(2);
        for (int i = 2; i <= 14; i++) {
            x.sing(0);
            is("12: acts", i, x.count(9));
        }
        for (int left = 13; left >= 0; left--) {
            is("12: undo() of fourteen", left, x.undo());
        }
        is("12: the first one is undone", 1, x.count(4));
        is("12: there is none", STATE, x.undo());
    }

    private static void undoOfAForgottenAct() {
        CasketLines x = Made.twoTrue();
        x.move(2);
        x.mend(1, 3, 3);
        for (int i = 3; i <= 14; i++) {
            x.sing(0);
        }
        is("12: the fifteenth", 1, x.sing(1));
        is("12: fourteen acts", 14, x.count(9));
        for (int left = 13; left >= 0; left--) {
            is("12: undo() of fifteen", left, x.undo());
        }
        is("12: there is none", STATE, x.undo());
        is("12: the first is forgotten and stays", 2, x.count(4));
        is("12: the second is undone", 1, x.casket(1, 1));
        CasketLines many = Made.twoTrue();
        for (int i = 0; i < 100; i++) {
            many.mend(0, 5, i % 2);
            is("12: acts of " + (i + 1), Math.min(14, i + 1), many.count(9));
        }
    }

    private static void undoOfAForgottenAttempt() {
        CasketLines x = Made.twoTrue();
        x.attempt();
        for (int i = 0; i < 13; i++) {
            x.sing(2);
        }
        x.attempt();
        is("12: two have tried", 2, x.count(7));
        is("12: undo() of the second", 13, x.undo());
        for (int left = 12; left >= 0; left--) {
            x.undo();
        }
        is("12: there is none", STATE, x.undo());
        is("12: the first has tried for good", 1, x.count(7));
        is("12: what it picked", 0, x.wooer(0, 2));
    }

    private static void undoMakesRoom() {
        CasketLines x = Made.twoTrue();
        x.move(2);
        for (int i = 2; i <= 14; i++) {
            x.sing(0);
        }
        is("12: one undone", 13, x.undo());
        is("12: one more", 1, x.sing(1));
        is("12: fourteen", 14, x.count(9));
        for (int left = 13; left >= 0; left--) {
            is("12: undo()", left, x.undo());
        }
        is("12: nothing was forgotten", 1, x.count(4));
    }

    private static void refusedActsAreNoActs() {
        CasketLines x = Made.full();
        is("12: attempt()", STATE, x.attempt());
        is("12: mend", STATE, x.mend(3, 2, 0));
        is("12: move", STATE, x.move(1));
        is("12: sing", UNKNOWN, x.sing(4));
        is("12: acts", 14, x.count(9));
        Due.same("12: what is refused", Due.trail(Made.full()), Due.trail(x));
    }
}
