/** What the calls answer where there is nothing: no text, caskets, wooers, picture, reading, act, or all is sung. */
public final class NothingAtAllTest {
    private static final int UNKNOWN = Made.UNKNOWN, STATE = Made.STATE, NONE = Made.NONE;

    public static void main(String[] args) {
        newObject();
        newObjectHasNoCasket();
        newObjectTakesActsAndSlots();
        emptyText();
        houseWithoutParts();
        noCaskets();
        noWooers();
        noPicture();
        noPictureIsNotWedByPickingNothing();
        noReading();
        noReadingShares();
        allSung();
        allSungRiddles();
        noAct();
        Due.end();
    }

    private static void is(String call, long want, long got) {
        Due.is("nothing at all: " + call, want, got);
    }

    private static void counts(String where, CasketLines x, int... due) {
        for (int what = 0; what < due.length; what++) {
            is(where + ", count(" + what + ")", due[what], x.count(what));
        }
    }

    private static void fraction(String call, int above, int below, int gotAbove, int gotBelow) {
        is(call + " above", above, gotAbove);
        is(call + " below", below, gotBelow);
    }

    /** Promise 1: "No caskets, no wooers"; "At first TRUE is 9, there is nothing". */
    private static void newObject() {
        CasketLines x = Made.fresh();
        counts("new", x, 0, 0, 0, 9, NONE, 0, 0, 0, 0, 0);
        is("new, fault()", 0, x.fault());
        is("new, wipe()", 0, x.wipe());
        is("new, seed", 0, x.seed(0));
        for (int kinds = 0; kinds < 16; kinds++) {
            is("new, riddle(" + kinds + ", false)", NONE, x.riddle(kinds, false));
            is("new, riddle(" + kinds + ", true)", NONE, x.riddle(kinds, true));
        }
        is("new, judge of a wooer", 0, x.judge(1, 0));
        is("new, judge of a move", 0, x.judge(1, 10));
        is("new, judge of a song", 0, x.judge(1, 20));
        is("new, rests(0)", 1, x.rests(0));
        is("new, rests(1)", 0, x.rests(1));
        is("new, houses(20)", 0, x.houses(20));
    }

    private static void newObjectHasNoCasket() {
        CasketLines x = Made.fresh();
        is("new, casket(0, 0)", UNKNOWN, x.casket(0, 0));
        is("new, wooer(0, 0)", UNKNOWN, x.wooer(0, 0));
        is("new, mend(0, 0, 0)", UNKNOWN, x.mend(0, 0, 0));
        is("new, move(0)", UNKNOWN, x.move(0));
        is("new, move to where the picture is, NONE", UNKNOWN, x.move(NONE));
        is("new, sing(0)", UNKNOWN, x.sing(0));
        is("new, lines(0, true)", UNKNOWN, x.lines(0, true));
        is("new, songs(0)", UNKNOWN, x.songs(0));
        is("new, said(0, true)", UNKNOWN, x.said(0, true));
        is("new, said(0, false)", UNKNOWN, x.said(0, false));
        fraction("new, belief(0, 0)", UNKNOWN, UNKNOWN, x.belief(0, 0, true), x.belief(0, 0, false));
        fraction("new, share(0)", UNKNOWN, UNKNOWN, x.share(0, true), x.share(0, false));
        fraction("new, lost(0, 0)", UNKNOWN, UNKNOWN, x.lost(0, 0, true), x.lost(0, 0, false));
    }

    private static void newObjectTakesActsAndSlots() {
        CasketLines x = Made.fresh();
        is("new, attempt()", STATE, x.attempt());
        is("new, undo()", STATE, x.undo());
        is("new, house()", STATE, x.house());
        is("new, again(0)", STATE, x.again(0));
        is("new, again(1)", STATE, x.again(1));
        is("new, keep(0)", 0, x.keep(0));
        is("new, again(0) behind keep(0)", 0, x.again(0));
        is("new, again(1) behind keep(0)", STATE, x.again(1));
        counts("new, gone on from a slot", x, 0, 0, 0, 9, NONE, 0, 0, 0, 0, 0);
    }

    private static void emptyText() {
        CasketLines x = Made.twoTrue();
        is("text, wipe()", Made.TWO_TRUE.length(), x.wipe());
        is("empty text, letters", 0, x.count(0));
        is("empty text, fault()", 0, x.fault());
        is("empty text, wipe()", 0, x.wipe());
        is("empty text, house()", STATE, x.house());
        is("empty text, the house stays", 3, x.count(1));
        is("empty text, the first letter", 1, x.write('G'));
    }

    /** "PARTS, none or more". */
    private static void houseWithoutParts() {
        for (int truth : new int[] {0, 1, 2, 3, 4, 9}) {
            CasketLines x = new CasketLines();
            Due.write(x, "G" + truth);
            is("no parts, fault()", NONE, x.fault());
            is("no parts, house()", 0, x.house());
            // A reading is a casket and a set: where there is no casket, not even no line is one.
            counts("G" + truth, x, 2, 0, 0, truth, NONE, 0, 0, 0, 0, 0);
        }
        is("no parts, attempt()", STATE, Made.bare().attempt());
        is("no parts, casket(0, 0)", UNKNOWN, Made.bare().casket(0, 0));
        is("no parts, rests(0)", 1, Made.bare().rests(0));
        is("no parts, rests(1)", 0, Made.bare().rests(1));
    }

    private static void noCaskets() {
        CasketLines x = Made.noCaskets();
        counts("no caskets", x, 10, 0, 4, 9, NONE, 0, 0, 0, 0, 0);
        for (int wooer = 0; wooer < 4; wooer++) {
            is("no caskets, wooer(" + wooer + ", 1)", NONE, x.wooer(wooer, 1));
            is("no caskets, songs(" + wooer + ")", NONE, x.songs(wooer));
        }
        is("no caskets, riddle(0, false)", NONE, x.riddle(0, false));
        is("no caskets, four wooers may try", NONE, x.judge(4, 0));
        is("no caskets, a move", 0, x.judge(1, 10));
        is("no caskets, a song behind a wooer", 1, x.judge(2, 20));
        is("no caskets, rests(0)", 1, x.rests(0));
        is("no caskets, rests(1)", 0, x.rests(1));
        is("no caskets, houses(20)", 0, x.houses(20));
        for (int tried = 1; tried <= 4; tried++) {
            is("no caskets, attempt()", NONE, x.attempt());
            is("no caskets, tried", tried, x.count(7));
            is("no caskets, not wed", 0, x.count(8));
            is("no caskets, wooer(.., 2)", NONE, x.wooer(tried - 1, 2));
        }
        is("no caskets, no wooer is left", STATE, x.attempt());
    }

    private static void noWooers() {
        CasketLines x = Made.noWooers();
        is("no wooers, attempt()", STATE, x.attempt());
        is("no wooers, wooer(0, 0)", UNKNOWN, x.wooer(0, 0));
        is("no wooers, songs(0)", UNKNOWN, x.songs(0));
        is("no wooers, a wooer judged", 0, x.judge(1, 0));
        is("no wooers, a move judged", NONE, x.judge(1, 10));
        is("no wooers, kinds are there all the same", 2, x.riddle(12, false));
        fraction("no wooers, belief(2, 1)", 3, 4, x.belief(2, 1, true), x.belief(2, 1, false));
        counts("no wooers", x, 14, 3, 0, 2, 1, 5, 2, 0, 0, 0);
    }

    private static void noPicture() {
        CasketLines x = Made.noPicture();
        is("no picture, count(4)", NONE, x.count(4));
        for (int kinds = 0; kinds < 16; kinds++) {
            is("no picture, riddle(" + kinds + ", false)", NONE, x.riddle(kinds, false));
            is("no picture, riddle(" + kinds + ", true)", NONE, x.riddle(kinds, true));
        }
        for (int i = 0; i < 3; i++) {
            is("no picture, songs(" + i + ")", NONE, x.songs(i));
            is("no picture, said(" + i + ", true)", NONE, x.said(i, true));
            is("no picture, said(" + i + ", false)", 0, x.said(i, false));
            is("no picture, a move to " + i + " judged", NONE, x.judge(1, 10 + i));
        }
        is("no picture, what fits", 5, x.count(5));
        fraction("no picture, belief(0, 0)", 1, 2, x.belief(0, 0, true), x.belief(0, 0, false));
        int[] picks = {0, 0, 0, 2};
        for (int pick : picks) {
            is("no picture, attempt()", pick, x.attempt());
            is("no picture, nobody weds her", 0, x.count(8));
        }
        is("no picture, no wooer is left", STATE, x.attempt());
        is("no picture, move(1)", NONE, x.move(1));
        is("no picture, undone", 4, x.undo());
        is("no picture any more", NONE, x.count(4));
    }

    /** Both where the picture is and what is picked are NONE then. */
    private static void noPictureIsNotWedByPickingNothing() {
        CasketLines x = Made.noPicture();
        x.sing(0);
        x.sing(1);
        x.sing(2);
        is("no picture, all sung, attempt()", NONE, x.attempt());
        is("no picture, all sung, not wed", 0, x.count(8));
        is("no picture, all sung, songs(1)", NONE, x.songs(1));
        is("no picture, all sung, riddle(15, false)", NONE, x.riddle(15, false));
        is("no picture, all sung, riddle(0, true)", NONE, x.riddle(0, true));
    }

    private static void noReading() {
        CasketLines x = Made.noReading();
        is("no reading, what fits", 0, x.count(5));
        is("no reading, readings", 0, x.count(6));
        for (int i = 0; i < 3; i++) {
            is("no reading, casket(" + i + ", 4)", 0, x.casket(i, 4));
            is("no reading, casket(" + i + ", 5)", 0, x.casket(i, 5));
            is("no reading, lines(" + i + ", true)", NONE, x.lines(i, true));
            is("no reading, lines(" + i + ", false)", NONE, x.lines(i, false));
            for (int f = 0; f <= 5; f++) {
                fraction("no reading, belief(" + i + ", " + f + ")", 0, 1, x.belief(i, f, true), x.belief(i, f, false));
            }
            fraction("no reading, lost(" + i + ", 0)", 0, 1, x.lost(i, 0, true), x.lost(i, 0, false));
        }
        // "none: as a DULL one"; the one that goes by the metal takes the last casket.
        int[] picks = {0, 2, 0, 0};
        for (int wooer = 0; wooer < 4; wooer++) {
            is("no reading, wooer(" + wooer + ", 1)", picks[wooer], x.wooer(wooer, 1));
        }
        is("no reading, rests(0)", 1, x.rests(0));
        is("no reading, rests(1)", 0, x.rests(1));
        x.sing(0);
        int[] behindSong = {1, 2, 1, 1};
        for (int wooer = 0; wooer < 4; wooer++) {
            is("no reading, 0 sung, wooer(" + wooer + ", 1)", behindSong[wooer], x.wooer(wooer, 1));
        }
    }

    /** Lines 0 and 1 shut out casket 0, lines 1 and 2 casket 2, all three of them all. */
    private static void noReadingShares() {
        CasketLines x = Made.noReading();
        fraction("no reading, share(0)", 5, 6, x.share(0, true), x.share(0, false));
        fraction("no reading, share(1)", 4, 3, x.share(1, true), x.share(1, false));
        fraction("no reading, share(2)", 5, 6, x.share(2, true), x.share(2, false));
        // More lines are to be true than there are: nothing fits even before a line has come.
        CasketLines before = Due.housed("G4" + Made.LINES);
        for (int i = 0; i < 3; i++) {
            fraction("no reading at all, share(" + i + ")", 0, 1, before.share(i, true), before.share(i, false));
            fraction("no reading at all, lost(" + i + ", 10)", 0, 1, before.lost(i, 10, true), before.lost(i, 10, false));
        }
    }

    private static void allSung() {
        CasketLines x = Made.allSung();
        is("all sung, what fits", 5, x.count(5));
        for (int wooer = 0; wooer < 4; wooer++) {
            is("all sung, wooer(" + wooer + ", 1)", NONE, x.wooer(wooer, 1));
            is("all sung, songs(" + wooer + ")", NONE, x.songs(wooer));
        }
        is("all sung, four wooers may try", NONE, x.judge(4, 0));
        for (int tried = 1; tried <= 4; tried++) {
            is("all sung, attempt()", NONE, x.attempt());
            is("all sung, tried", tried, x.count(7));
            is("all sung, not wed", 0, x.count(8));
            is("all sung, could not pick", NONE, x.wooer(tried - 1, 2));
        }
        is("all sung, no wooer is left", STATE, x.attempt());
        is("all sung, one is an act", 6, x.undo());
        is("all sung, not any more", 0, x.sing(1));
        is("1 is open, attempt()", 1, x.attempt());
        is("1 is open, wed", 1, x.count(8));
        is("picked nothing before", NONE, x.wooer(2, 2));
        is("picked 1 then", 1, x.wooer(3, 2));
    }

    private static void allSungRiddles() {
        CasketLines x = Made.allSung();
        is("all sung, nobody is to pick right, how many", 0, x.riddle(0, false));
        is("all sung, nobody is to pick right, the row", 0, x.riddle(0, true));
        for (int kinds = 1; kinds < 16; kinds++) {
            is("all sung, riddle(" + kinds + ", false)", NONE, x.riddle(kinds, false));
            is("all sung, riddle(" + kinds + ", true)", NONE, x.riddle(kinds, true));
        }
        // Nobody can pick, so nobody's leaving tells anything.
        for (int f = 0; f <= 5; f++) {
            fraction("all sung, belief(0, " + f + ")", 1, 2, x.belief(0, f, true), x.belief(0, f, false));
            fraction("all sung, belief(1, " + f + ")", 0, 1, x.belief(1, f, true), x.belief(1, f, false));
        }
        is("all sung, rests(0)", 2, x.rests(0));
    }

    private static void noAct() {
        CasketLines x = Made.twoTrue();
        is("no act, undo()", STATE, x.undo());
        is("no act, count(9)", 0, x.count(9));
        x.sing(0);
        is("one act, undo()", 0, x.undo());
        is("all acts undone, undo()", STATE, x.undo());
        is("all acts undone, count(9)", 0, x.count(9));
        x.sing(0);
        x.keep(0);
        x.again(0);
        is("gone on from a slot, count(9)", 0, x.count(9));
        is("gone on from a slot, undo()", STATE, x.undo());
        is("gone on from a slot, sung", 1, x.casket(0, 3));
        x.sing(1);
        x.house();
        is("made anew, count(9)", 0, x.count(9));
        is("made anew, undo()", STATE, x.undo());
    }
}
