/** Promises 24 to 26: each sentence that names an edge, by what stands just inside it and just outside. */
public final class SlotEdgesTest {
    private static final int UNKNOWN = Made.UNKNOWN, OUTSIDE = Made.OUTSIDE, STATE = Made.STATE, NONE = Made.NONE;
    private static final int[] NO_SLOTS = {-1, 2, 3, 32, Integer.MIN_VALUE, Integer.MAX_VALUE};

    public static void main(String[] args) {
        keepUnknown();
        keepFromNoneToSix();
        keepIsNoAct();
        keepOverWhatWasKept();
        againUnknown();
        againNoneWereKept();
        againFromNoneToSix();
        againEmptiesTheRow();
        againBringsBackWhatIsKept();
        againLeavesTextAndSeed();
        againBringsBackWhatWasPicked();
        againBringsBackAWedding();
        againOnceMore();
        againOfTheTwoSlots();
        countOutside();
        countOfAFullHouse();
        countOfReadings();
        Due.end();
    }

    private static void is(String call, long want, long got) {
        Due.is(call, want, got);
    }

    // ---- 24 "They are kept: how many have TRIED. UNKNOWN."

    private static void keepUnknown() {
        for (int slot : NO_SLOTS) {
            Due.changesNothing("24: keep(" + slot + "), new", UNKNOWN, Made::fresh, x -> x.keep(slot));
            Due.changesNothing("24: keep(" + slot + "), busy", UNKNOWN, Made::busy, x -> x.keep(slot));
            Due.changesNothing("24: keep(" + slot + "), full", UNKNOWN, Made::full, x -> x.keep(slot));
        }
    }

    private static void keepFromNoneToSix() {
        CasketLines x = Due.housed(Made.LARGEST);
        x.move(2);
        for (int tried = 0; tried <= 6; tried++) {
            is("24: keep(0)", tried, x.keep(0));
            is("24: keep(1)", tried, x.keep(1));
            x.attempt();
        }
        is("24: no caskets, no wooers", 0, Made.fresh().keep(0));
        is("24: wed", 1, Made.wed().keep(1));
    }

    private static void keepIsNoAct() {
        CasketLines x = Made.full();
        is("24: keep(0)", 6, x.keep(0));
        is("24: keep(1)", 6, x.keep(1));
        is("24: acts", 14, x.count(9));
        for (int left = 13; left >= 0; left--) {
            is("24: undo() behind it", left, x.undo());
        }
        is("24: there is none", STATE, x.undo());
        CasketLines none = Made.twoTrue();
        none.keep(0);
        is("24: no act to undo", STATE, none.undo());
    }

    private static void keepOverWhatWasKept() {
        CasketLines x = Made.twoTrue();
        x.keep(0);
        x.keep(1);
        x.move(2);
        x.keep(1);
        x.move(0);
        x.again(1);
        is("24: the later one is kept", 2, x.count(4));
        x.again(0);
        is("24: the other slot has its own", 1, x.count(4));
    }

    // ---- 25 "They are as they were kept: how many have TRIED. UNKNOWN; STATE: none were kept."

    private static void againUnknown() {
        for (int slot : NO_SLOTS) {
            Due.changesNothing("25: again(" + slot + "), new", UNKNOWN, Made::fresh, x -> x.again(slot));
            Due.changesNothing("25: again(" + slot + "), busy", UNKNOWN, Made::busy, x -> x.again(slot));
            Due.changesNothing("25: again(" + slot + "), full", UNKNOWN, Made::full, x -> x.again(slot));
        }
    }

    private static void againNoneWereKept() {
        Due.changesNothing("25: again(0), new", STATE, Made::fresh, x -> x.again(0));
        Due.changesNothing("25: again(1), new", STATE, Made::fresh, x -> x.again(1));
        Due.changesNothing("25: again(0), wed", STATE, Made::wed, x -> x.again(0));
        Due.changesNothing("25: again(1), 0 was kept", STATE, Made::busy, x -> x.again(1));
        CasketLines x = Made.full();
        x.wipe();
        Due.write(x, "G9");
        x.house();
        is("25: again(0), a new house", STATE, x.again(0));
        is("25: again(1), a new house", STATE, x.again(1));
        CasketLines refused = Made.busy();
        refused.wipe();
        is("25: no new house", STATE, refused.house());
        is("25: again(0), what was kept is there", 1, refused.again(0));
    }

    private static void againFromNoneToSix() {
        CasketLines x = Made.full();
        is("25: again(0)", 0, x.again(0));
        is("25: tried", 0, x.count(7));
        is("25: the first has not tried", NONE, x.wooer(0, 2));
        is("25: again(1)", 6, x.again(1));
        is("25: tried", 6, x.count(7));
        int[] picks = {0, 3, 0, 3, 0, 3};
        for (int w = 0; w < 6; w++) {
            is("25: wooer(" + w + ", 2)", picks[w], x.wooer(w, 2));
        }
        is("25: no wooer is left", STATE, x.attempt());
    }

    /** "(THE ROW of ACTS is empty when one goes on)". */
    private static void againEmptiesTheRow() {
        CasketLines x = Made.full();
        x.again(1);
        is("25: acts", 0, x.count(9));
        is("25: undo()", STATE, x.undo());
        x.sing(0);
        is("25: one act", 1, x.count(9));
        is("25: undo() of it", 0, x.undo());
        is("25: undo() beyond it", STATE, x.undo());
    }

    /** "SLOTS 0 to 1 keep LINES, the PICTURE, what is SUNG, who has TRIED". */
    private static void againBringsBackWhatIsKept() {
        CasketLines x = Made.busy();
        long[] kept = Due.glance(x);
        is("25: keep(1)", 1, x.keep(1));
        x.mend(0, 4, 1);
        x.mend(2, 0, 0);
        x.move(1);
        x.sing(0);
        x.sing(2);
        x.attempt();
        is("25: again(1)", 1, x.again(1));
        Due.same("25: what is kept", kept, Due.glance(x));
        is("25: lines", 5, x.casket(2, 1));
        is("25: picture", 2, x.count(4));
        is("25: sung", 1, x.casket(2, 3));
        is("25: not sung", 0, x.casket(0, 3));
        is("25: picked", 0, x.wooer(0, 2));
        is("25: not tried", NONE, x.wooer(1, 2));
        CasketLines nowhere = Made.noPicture();
        nowhere.keep(0);
        nowhere.move(1);
        nowhere.again(0);
        is("25: the picture is nowhere", NONE, nowhere.count(4));
    }

    /** Who has tried has picked something; another pick of the same wooer since then does not count. */
    private static void againBringsBackWhatWasPicked() {
        CasketLines x = Made.twoTrue();
        x.attempt();
        x.attempt();
        x.keep(1);
        x.undo();
        x.sing(0);
        x.sing(1);
        is("25: the second picks another one", 2, x.attempt());
        is("25: again(1)", 2, x.again(1));
        is("25: what the first picked", 0, x.wooer(0, 2));
        is("25: what the second picked", 0, x.wooer(1, 2));
        CasketLines none = Made.allSung();
        none.attempt();
        none.keep(0);
        none.undo();
        none.sing(2);
        none.attempt();
        none.again(0);
        is("25: one that could not pick", NONE, none.wooer(0, 2));
        is("25: it has tried", 1, none.count(7));
    }

    private static void againLeavesTextAndSeed() {
        CasketLines x = Made.busy();
        x.seed(-5);
        x.write('W');
        x.again(0);
        is("25: letters", 9, x.count(0));
        is("25: fault()", 9, x.fault());
        is("25: seed", -5, x.seed(0));
    }

    private static void againBringsBackAWedding() {
        CasketLines x = Made.wed();
        x.keep(0);
        x.undo();
        x.keep(1);
        is("25: again(0)", 1, x.again(0));
        is("25: wed", 1, x.count(8));
        is("25: nobody tries any more", STATE, x.attempt());
        is("25: again(1)", 0, x.again(1));
        is("25: not wed", 0, x.count(8));
        is("25: the first tries", 1, x.attempt());
        x.again(0);
        x.move(2);
        x.keep(1);
        x.again(1);
        is("25: wed, and the picture moved away", 1, x.count(8));
    }

    private static void againOnceMore() {
        CasketLines x = Made.busy();
        x.again(0);
        long[] kept = Due.glance(x);
        for (int i = 0; i < 3; i++) {
            x.mend(1, 5, i);
            x.sing(1);
            is("25: again(0) once more", 1, x.again(0));
            Due.same("25: again(0) once more", kept, Due.glance(x));
        }
    }

    private static void againOfTheTwoSlots() {
        CasketLines x = Made.twoTrue();
        x.keep(1);
        is("25: again(0), 1 was kept", STATE, x.again(0));
        is("25: again(1)", 0, x.again(1));
        x.attempt();
        x.keep(0);
        is("25: again(1), none has tried", 0, x.again(1));
        is("25: again(0), one has", 1, x.again(0));
    }

    // ---- 26 "0 letters of THE TEXT, .. 9 ACTS in the row. OUTSIDE."

    private static void countOutside() {
        for (int what : new int[] {-1, 10, 11, 32, Integer.MIN_VALUE, Integer.MAX_VALUE}) {
            Due.changesNothing("26: count(" + what + "), new", OUTSIDE, Made::fresh, x -> x.count(what));
            Due.changesNothing("26: count(" + what + "), busy", OUTSIDE, Made::busy, x -> x.count(what));
            Due.changesNothing("26: count(" + what + "), full", OUTSIDE, Made::full, x -> x.count(what));
        }
    }

    private static void counts(String where, CasketLines x, int... due) {
        for (int what = 0; what < due.length; what++) {
            is("26: " + where + ", count(" + what + ")", due[what], x.count(what));
        }
    }

    private static void countOfAFullHouse() {
        // Line 0 calls line 1 false, 1 is "not here", 2 "in casket 2", 3 "in casket 0": each place has its reading.
        counts("full", Made.full(), 40, 4, 6, 9, 1, 15, 4, 6, 0, 14);
        counts("new", Made.fresh(), 0, 0, 0, 9, NONE, 0, 0, 0, 0, 0);
        counts("wed", Made.wed(), 22, 3, 4, 2, 1, 5, 2, 1, 1, 2);
        counts("busy", Made.busy(), 8, 3, 4, 2, 2, 4, 1, 1, 0, 4);
    }

    private static void countOfReadings() {
        CasketLines x = Due.housed("G9C040C041C042D043");
        is("26: the most readings", 64, x.count(6));
        is("26: all fit", 15, x.count(5));
        is("26: in the last one", 3, x.count(4));
        is("26: the least TRUE", 0, Due.housed("G0").count(3));
        is("26: the greatest TRUE", 4, Due.housed("G4").count(3));
        is("26: any", 9, Due.housed("G9").count(3));
    }
}
