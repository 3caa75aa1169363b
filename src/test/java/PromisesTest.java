/** Each promise of the document by worked examples: ordinary inputs, edges, wrong inputs. */
public final class PromisesTest {
    private static final int UNKNOWN = -1, OUTSIDE = -2, STATE = -3, FULL = -4, NONE = -9;
    private static final int[] WRONG_CASKETS = {-1, 3, 4, 31, 32, Integer.MIN_VALUE, Integer.MAX_VALUE};

    private static final String LINES = Made.LINES;
    private static final String WOOERS = Made.WOOERS;
    private static final String TWO_TRUE = Made.TWO_TRUE;
    private static final String NONE_TRUE = "G0" + LINES + WOOERS;
    private static final String ANY_TRUE = Made.ANY_TRUE;

    public static void main(String[] args) {
        promise1NewObject();
        promise2Write();
        promise3Wipe();
        promise4Fault();
        promise5House();
        promise5HouseMadeAnew();
        promise6Casket();
        promise6Readings();
        promise7Wooer();
        promise8Attempt();
        promise9Mend();
        promise10Move();
        promise11Sing();
        promise12Undo();
        promise12ForgottenActs();
        promise13Lines();
        promise14Riddle();
        promise15Songs();
        promise16Said();
        promise17Belief();
        promise18Judge();
        promise19Share();
        promise20Rests();
        promise21Lost();
        promise22Seed();
        promise23Houses();
        promise24Keep();
        promise25Again();
        promise26Count();
        Due.end();
    }

    private static void is(String call, long want, long got) {
        Due.is(call, want, got);
    }

    private static CasketLines housed(String text) {
        return Due.housed(text);
    }

    private static void fraction(String call, int above, int below, int gotAbove, int gotBelow) {
        is(call + " above", above, gotAbove);
        is(call + " below", below, gotBelow);
    }

    private static void promise1NewObject() {
        CasketLines x = new CasketLines();
        int[] counts = {0, 0, 0, 9, NONE, 0, 0, 0, 0, 0};
        for (int what = 0; what < counts.length; what++) {
            is("1: count(" + what + ")", counts[what], x.count(what));
        }
        is("1: undo()", STATE, x.undo());
        is("1: attempt()", STATE, x.attempt());
        is("1: casket", UNKNOWN, x.casket(0, 0));
        is("1: wooer", UNKNOWN, x.wooer(0, 0));
        is("1: seed", 0, x.seed(0));
        is("1: again(0)", STATE, x.again(0));
        is("1: riddle(0, false)", NONE, x.riddle(0, false));
        is("1: UNKNOWN", -1, CasketLines.UNKNOWN);
        is("1: OUTSIDE", -2, CasketLines.OUTSIDE);
        is("1: STATE", -3, CasketLines.STATE);
        is("1: FULL", -4, CasketLines.FULL);
        is("1: NONE", -9, CasketLines.NONE);
    }

    private static void promise2Write() {
        CasketLines x = new CasketLines();
        is("2: write(-1)", OUTSIDE, x.write(-1));
        is("2: write(256)", OUTSIDE, x.write(256));
        is("2: write(min)", OUTSIDE, x.write(Integer.MIN_VALUE));
        for (int i = 1; i <= 40; i++) {
            is("2: write " + i, i, x.write(i % 2 == 0 ? 0 : 255));
        }
        is("2: write, full", FULL, x.write('G'));
        is("2: write(300), full", OUTSIDE, x.write(300));
        is("2: letters", 40, x.count(0));
    }

    private static void promise3Wipe() {
        CasketLines x = housed(TWO_TRUE);
        is("3: wipe()", TWO_TRUE.length(), x.wipe());
        is("3: letters", 0, x.count(0));
        is("3: wipe() again", 0, x.wipe());
        is("3: the house stays", 3, x.count(1));
        is("3: write behind it", 1, x.write('G'));
    }

    private static void fault(String text, int want) {
        CasketLines x = new CasketLines();
        Due.write(x, text);
        is("4: fault() of " + text, want, x.fault());
        is("4: letters of " + text, text.length(), x.count(0));
    }

    private static void promise4Fault() {
        fault("", 0);
        fault("G", 1);
        fault("g", 0);
        fault("GG", 1);
        for (int t = 0; t <= 9; t++) {
            fault("G" + t, t <= 4 || t == 9 ? NONE : 1);
        }
        fault("G/", 1);
        fault("G:", 1);
        fault("G9X", 2);
        fault("G9G", 2);
        fault("G9C", 3);
        fault("G9C3", 4);
        fault("G9C4", 3);
        fault("G9C/", 3);
        fault("G9C35", 5);
        fault("G9C36", 4);
        fault("G9C353", NONE);
        fault("G9C354", 5);
        fault("G9D353", NONE);
        fault("G9D353D", 6);
        fault("G9D353C000", NONE);
        fault("G9C000D000C000C000", NONE);
        fault("G9C000D000C000C000C", 18);
        fault("G9C000C000C000C000D", 18);
        fault("G9C000C000C000C0", 16);
        fault("G9W", 3);
        fault("G9W3", NONE);
        fault("G9W4", 3);
        fault("G9W0W0W0W0W0W0", NONE);
        fault("G9W0W0W0W0W0W0W", 14);
        fault("G9W0C000W1D111W2C222W3C333W0W1", NONE);
        fault("G9W0C000W1D111W2C222W3C333W0W1xyz", 30);
        fault("G9C0x" + "0".repeat(35), 4);
        fault(((char) 255) + "9", 0);
        CasketLines x = housed(TWO_TRUE);
        long[] before = Due.sight(x);
        x.fault();
        Due.same("4: fault()", before, Due.sight(x));
    }

    private static void promise5House() {
        CasketLines x = new CasketLines();
        is("5: house() of nothing", STATE, x.house());
        Due.write(x, "G3W2C013W1D122W0");
        is("5: house()", 23, x.house());
        is("5: TRUE", 3, x.count(3));
        is("5: picture", 1, x.count(4));
        int[][] caskets = {{0, 1, 3}, {1, 2, 2}};
        for (int c = 0; c < 2; c++) {
            for (int what = 0; what < 3; what++) {
                is("5: casket(" + c + ", " + what + ")", caskets[c][what], x.casket(c, what));
            }
        }
        is("5: wooer 0", 2, x.wooer(0, 0));
        is("5: wooer 1", 1, x.wooer(1, 0));
        is("5: wooer 2", 0, x.wooer(2, 0));
        is("5: the text stays", 16, x.count(0));
        x.write('C');
        long[] before = Due.sight(x);
        is("5: house() with a fault", STATE, x.house());
        Due.same("5: house() with a fault", before, Due.sight(x));
        x.wipe();
        Due.write(x, "G9");
        is("5: house() of no parts", 0, x.house());
        is("5: no picture", NONE, x.count(4));
    }

    private static void promise5HouseMadeAnew() {
        CasketLines x = housed(TWO_TRUE);
        x.seed(77);
        x.sing(0);
        x.mend(1, 5, 3);
        x.move(2);
        x.attempt();
        x.keep(0);
        x.keep(1);
        is("5: house() once more", 34, x.house());
        is("5: acts", 0, x.count(9));
        is("5: undo()", STATE, x.undo());
        is("5: tried", 0, x.count(7));
        is("5: wed", 0, x.count(8));
        is("5: picture", 1, x.count(4));
        is("5: sung", 0, x.casket(0, 3));
        is("5: sort", 1, x.casket(1, 1));
        is("5: picked", NONE, x.wooer(0, 2));
        is("5: again(0)", STATE, x.again(0));
        is("5: again(1)", STATE, x.again(1));
        is("5: the seed stays", 77, x.seed(0));
    }

    private static void promise6Casket() {
        CasketLines x = housed(TWO_TRUE);
        int[][] due = {{0, 0, 0, 0, 1, 1}, {1, 1, 0, 0, 0, 0}, {2, 2, 2, 0, 1, 1}};
        for (int c = 0; c < 3; c++) {
            for (int what = 0; what < 6; what++) {
                is("6: casket(" + c + ", " + what + ")", due[c][what], x.casket(c, what));
            }
            is("6: casket(" + c + ", 6)", OUTSIDE, x.casket(c, 6));
            is("6: casket(" + c + ", -1)", OUTSIDE, x.casket(c, -1));
        }
        for (int c : WRONG_CASKETS) {
            is("6: casket(" + c + ", 0)", UNKNOWN, x.casket(c, 0));
            is("6: casket(" + c + ", 6)", UNKNOWN, x.casket(c, 6));
        }
        x.sing(1);
        is("6: casket(1, 3)", 1, x.casket(1, 3));
        is("6: sung ones may fit all the same", 1, x.casket(0, 4));
    }

    private static void readings(String text, int fits, int many) {
        CasketLines x = housed(text);
        is("6: caskets that fit in " + text, fits, x.count(5));
        is("6: readings of " + text, many, x.count(6));
    }

    private static void promise6Readings() {
        readings("G9", 0, 0);
        readings(ANY_TRUE, 7, 3);
        readings(TWO_TRUE, 5, 2);
        readings(NONE_TRUE, 2, 1);
        readings("G1" + LINES, 0, 0);
        readings("G4" + LINES, 0, 0);
        // A line that calls itself true may be either; one that calls itself false is neither.
        readings("G9C040", 1, 2);
        readings("G9C050", 0, 0);
        readings("G1C040", 1, 1);
        readings("G0C040", 1, 1);
        // There is no casket 3: sorts 2 and 4 are false, 3 and 5 true.
        readings("G0C023", 1, 1);
        readings("G1C023", 0, 0);
        readings("G1C033", 1, 1);
        readings("G0C033", 0, 0);
        readings("G0C043", 1, 1);
        readings("G1C053", 1, 1);
        // Each calls the other false: one of them is, whichever; wherever it is.
        readings("G9C051C050", 3, 4);
        readings("G1C051C050", 3, 4);
        readings("G2C051C050", 0, 0);
        // All four call the next one true: all are, or none.
        readings("G9C041C042C043C040", 15, 8);
        readings("G4C041C042C043C040", 15, 4);
    }

    private static void promise7Wooer() {
        CasketLines x = housed(TWO_TRUE);
        int[] picks = {0, 0, 0, 2};
        for (int w = 0; w < 4; w++) {
            is("7: wooer(" + w + ", 0)", w, x.wooer(w, 0));
            is("7: wooer(" + w + ", 1)", picks[w], x.wooer(w, 1));
            is("7: wooer(" + w + ", 2)", NONE, x.wooer(w, 2));
            is("7: wooer(" + w + ", 3)", OUTSIDE, x.wooer(w, 3));
            is("7: wooer(" + w + ", -1)", OUTSIDE, x.wooer(w, -1));
        }
        is("7: wooer(4, 9)", UNKNOWN, x.wooer(4, 9));
        is("7: wooer(-1, 0)", UNKNOWN, x.wooer(-1, 0));
        x.sing(0);
        int[] behindSong = {1, 1, 2, 2};
        for (int w = 0; w < 4; w++) {
            is("7: 0 sung, wooer(" + w + ", 1)", behindSong[w], x.wooer(w, 1));
        }
        x.sing(2);
        for (int w = 0; w < 4; w++) {
            is("7: 0 and 2 sung, wooer(" + w + ", 1)", 1, x.wooer(w, 1));
        }
        x.sing(1);
        for (int w = 0; w < 4; w++) {
            is("7: all sung, wooer(" + w + ", 1)", NONE, x.wooer(w, 1));
        }
        CasketLines metal = housed("G9C300C100C100C200W1");
        is("7: the dearest, the least of like ones", 1, metal.wooer(0, 1));
        metal.sing(1);
        is("7: the dearest that is left", 2, metal.wooer(0, 1));
        metal.sing(2);
        is("7: the dearest that is left then", 3, metal.wooer(0, 1));
        CasketLines bare = housed("G9W0W1W2W3");
        for (int w = 0; w < 4; w++) {
            is("7: no caskets, wooer(" + w + ", 1)", NONE, bare.wooer(w, 1));
        }
    }

    private static void promise8Attempt() {
        CasketLines x = housed("G2" + LINES + "W0W3W2");
        is("8: the first picks", 0, x.attempt());
        is("8: the second picks", 2, x.attempt());
        is("8: wooer(0, 2)", 0, x.wooer(0, 2));
        is("8: wooer(1, 2)", 2, x.wooer(1, 2));
        is("8: wooer(2, 2)", NONE, x.wooer(2, 2));
        is("8: not wed", 0, x.count(8));
        is("8: the third picks", 0, x.attempt());
        is("8: tried", 3, x.count(7));
        is("8: nobody is left", STATE, x.attempt());
        is("8: acts", 3, x.count(9));
        CasketLines wed = housed("G2" + LINES + "W0W0W0");
        wed.sing(0);
        is("8: picks right", 1, wed.attempt());
        is("8: wed", 1, wed.count(8));
        is("8: nobody tries any more", STATE, wed.attempt());
        wed.move(2);
        is("8: wed, wherever it is moved", 1, wed.count(8));
        is("8: nor then", STATE, wed.attempt());
        wed.undo();
        wed.undo();
        is("8: undone, not wed", 0, wed.count(8));
        is("8: tries once more", 1, wed.attempt());
        CasketLines none = housed("G9C000W0W0");
        none.sing(0);
        is("8: nothing to pick", NONE, none.attempt());
        is("8: no picture, not wed", 0, none.count(8));
        is("8: tried all the same", 1, none.count(7));
        is("8: picked nothing", NONE, none.wooer(0, 2));
    }

    private static void promise9Mend() {
        CasketLines x = housed(TWO_TRUE);
        is("9: mend(2, 5, 3)", 22, x.mend(2, 5, 3));
        is("9: sort", 5, x.casket(2, 1));
        is("9: a", 3, x.casket(2, 2));
        is("9: a alone", 53, x.mend(2, 5, 0));
        is("9: sort alone", 50, x.mend(2, 4, 0));
        long[] before = Due.sight(x);
        is("9: it is that", STATE, x.mend(2, 4, 0));
        is("9: sort 6", OUTSIDE, x.mend(2, 6, 0));
        is("9: sort -1", OUTSIDE, x.mend(2, -1, 0));
        is("9: a 4", OUTSIDE, x.mend(2, 0, 4));
        is("9: a -1", OUTSIDE, x.mend(2, 4, -1));
        for (int c : WRONG_CASKETS) {
            is("9: casket " + c, UNKNOWN, x.mend(c, 9, 9));
        }
        Due.same("9: refused mend", before, Due.sight(x));
        is("9: acts", 3, x.count(9));
        is("9: a line that says the same may be another", 0, x.mend(0, 0, 1));
    }

    private static void promise10Move() {
        CasketLines x = housed(TWO_TRUE);
        is("10: move(1), it is there", STATE, x.move(1));
        is("10: acts", 0, x.count(9));
        is("10: move(0)", 1, x.move(0));
        is("10: picture", 0, x.count(4));
        for (int c : WRONG_CASKETS) {
            is("10: move(" + c + ")", UNKNOWN, x.move(c));
        }
        is("10: acts", 1, x.count(9));
        CasketLines none = housed("G9C000C000");
        is("10: from nowhere", NONE, none.move(1));
        is("10: undone", 0, none.undo());
        is("10: nowhere", NONE, none.count(4));
    }

    private static void promise11Sing() {
        CasketLines x = housed(TWO_TRUE);
        is("11: sing(1)", 1, x.sing(1));
        is("11: sing(2)", 1, x.sing(2));
        is("11: sing(1) once more", 0, x.sing(1));
        is("11: not sung", 0, x.casket(1, 3));
        is("11: sung", 1, x.casket(2, 3));
        for (int c : WRONG_CASKETS) {
            is("11: sing(" + c + ")", UNKNOWN, x.sing(c));
        }
        is("11: acts", 3, x.count(9));
        is("11: what fits stays", 5, x.count(5));
    }

    private static void promise12Undo() {
        CasketLines x = housed(TWO_TRUE);
        long[] first = Due.sight(x);
        long[][] glances = new long[6][];
        glances[0] = Due.glance(x);
        x.attempt();
        glances[1] = Due.glance(x);
        x.mend(0, 3, 1);
        glances[2] = Due.glance(x);
        x.move(0);
        glances[3] = Due.glance(x);
        x.sing(2);
        glances[4] = Due.glance(x);
        x.attempt();
        is("12: wed", 1, x.count(8));
        glances[5] = Due.glance(x);
        x.sing(2);
        for (int left = 5; left >= 0; left--) {
            is("12: undo()", left, x.undo());
            Due.same("12: undo() back to " + left, glances[left], Due.glance(x));
        }
        is("12: there is none", STATE, x.undo());
        Due.same("12: refused undo()", first, Due.sight(x));
    }

    private static void promise12ForgottenActs() {
        CasketLines x = housed(TWO_TRUE);
        x.move(2);
        for (int i = 0; i < 13; i++) {
            x.sing(0);
        }
        is("12: acts", 14, x.count(9));
        x.mend(0, 5, 1);
        is("12: acts at most", 14, x.count(9));
        is("12: undo()", 13, x.undo());
        is("12: mended back", 0, x.casket(0, 1));
        for (int left = 12; left >= 0; left--) {
            is("12: undo()", left, x.undo());
        }
        is("12: the first is forgotten", STATE, x.undo());
        is("12: it stays moved", 2, x.count(4));
        is("12: sung as at first", 0, x.casket(0, 3));
        CasketLines mended = housed(TWO_TRUE);
        for (int i = 1; i <= 20; i++) {
            mended.mend(i % 3, i % 6, i % 4);
        }
        // Of the first six mendings only 4, 5 and 6 are seen, and none of them is undone.
        for (int left = 13; left >= 0; left--) {
            is("12: undo() of mendings", left, mended.undo());
        }
        for (int i = 4; i <= 6; i++) {
            is("12: sort of mending " + i, i % 6, mended.casket(i % 3, 1));
            is("12: a of mending " + i, i % 4, mended.casket(i % 3, 2));
        }
    }

    private static void promise13Lines() {
        CasketLines x = housed(TWO_TRUE);
        is("13: lines(0, true)", 3, x.lines(0, true));
        is("13: lines(0, false)", 3, x.lines(0, false));
        is("13: lines(1, true)", NONE, x.lines(1, true));
        is("13: lines(1, false)", NONE, x.lines(1, false));
        is("13: lines(2, true)", 6, x.lines(2, true));
        for (int c : WRONG_CASKETS) {
            is("13: lines(" + c + ")", UNKNOWN, x.lines(c, true));
        }
        CasketLines either = housed("G9C040C010");
        is("13: line 0 may be either, in all", 2, either.lines(0, true));
        is("13: line 0 may be either, in some", 3, either.lines(0, false));
        is("13: no line in all", 0, either.lines(1, true));
        is("13: line 0 in some", 1, either.lines(1, false));
        CasketLines bare = housed("G0C010");
        is("13: readings, but no true line", 0, bare.lines(0, true));
        is("13: nor in some", 0, bare.lines(0, false));
    }

    private static void promise14Riddle() {
        CasketLines x = housed(TWO_TRUE);
        long[] before = Due.sight(x);
        // Only two mended lines let casket 1 alone fit: "not here" on 0, "not in 0" on 1.
        is("14: riddle(12, false)", 2, x.riddle(12, false));
        is("14: riddle(12, true)", 10130, x.riddle(12, true));
        is("14: riddle(0, false)", 0, x.riddle(0, false));
        is("14: riddle(0, true)", 0, x.riddle(0, true));
        is("14: the dull one picks 0 whatever is mended", NONE, x.riddle(13, false));
        is("14: nor in a row", NONE, x.riddle(13, true));
        is("14: riddle(16, true)", OUTSIDE, x.riddle(16, true));
        is("14: riddle(-1, true)", OUTSIDE, x.riddle(-1, true));
        x.move(0);
        is("14: three pick 0 as it is", 0, x.riddle(7, false));
        is("14: all are to", 1, x.riddle(15, false));
        x.undo();
        Due.same("14: riddle", before, Due.sight(x));
        x.sing(1);
        is("14: sung: nobody picks right", NONE, x.riddle(4, false));
        is("14: sung: nobody is to", 0, x.riddle(0, false));
        CasketLines none = housed("G9C000C000");
        is("14: no picture", NONE, none.riddle(0, false));
        is("14: no picture, in a row", NONE, none.riddle(0, true));
        is("14: no picture, outside", OUTSIDE, none.riddle(99, true));
    }

    private static void promise15Songs() {
        CasketLines x = housed(TWO_TRUE);
        int[] one = {1, 1, 5, 5};
        int[] two = {3, 3, 1, 0};
        for (int w = 0; w < 4; w++) {
            is("15: songs(" + w + ")", one[w], x.songs(w));
        }
        x.move(2);
        for (int w = 0; w < 4; w++) {
            is("15: picture in 2, songs(" + w + ")", two[w], x.songs(w));
        }
        x.sing(1);
        is("15: besides what is sung", 1, x.songs(0));
        x.sing(2);
        is("15: the picture's casket is sung", NONE, x.songs(0));
        is("15: songs(4)", UNKNOWN, x.songs(4));
        is("15: songs(-1)", UNKNOWN, x.songs(-1));
        CasketLines none = housed("G9C000W0");
        is("15: no picture", NONE, none.songs(0));
        none.sing(0);
        is("15: no picture, nothing to pick", NONE, none.songs(0));
    }

    private static void promise16Said() {
        CasketLines x = housed(NONE_TRUE);
        long[] before = Due.sight(x);
        // No line may be true: sort 0 and 4 with any a, 2 with all but 1, 3 with 1.
        is("16: said(0, false)", 12, x.said(0, false));
        is("16: said(0, true)", 0, x.said(0, true));
        x.mend(0, 1, 0);
        is("16: whatever is on it", 12, x.said(0, false));
        is("16: no line on 1 would do", 0, x.said(1, false));
        is("16: nor is there a first", NONE, x.said(1, true));
        x.undo();
        Due.same("16: said", before, Due.sight(x));
        x.move(2);
        is("16: picture in 2", 0, x.said(0, false));
        is("16: picture in 2, the first", NONE, x.said(0, true));
        for (int c : WRONG_CASKETS) {
            is("16: said(" + c + ")", UNKNOWN, x.said(c, false));
        }
        CasketLines none = housed("G9C000C100");
        is("16: no picture, the first", NONE, none.said(0, true));
        is("16: no picture, how many", 0, none.said(0, false));
        is("16: no picture, no casket", UNKNOWN, none.said(2, false));
        is("16: no picture, no casket, the first", UNKNOWN, none.said(2, true));
        // The one line must be true: sort 0 with any a, 2 and 4 with 0, 3 and 5 with 1 to 3.
        CasketLines one = housed("G1C043");
        is("16: one casket, no picture, how many", 0, one.said(0, false));
        is("16: one casket, no picture, the first", NONE, one.said(0, true));
        one.move(0);
        is("16: the picture has come, how many", 12, one.said(0, false));
        is("16: the picture has come, the first", 0, one.said(0, true));
        one.undo();
        is("16: the picture is gone again, how many", 0, one.said(0, false));
        is("16: the picture is gone again, the first", NONE, one.said(0, true));
    }

    private static void belief(CasketLines x, int c, int f, int above, int below) {
        fraction("17: belief(" + c + ", " + f + ")", above, below, x.belief(c, f, true), x.belief(c, f, false));
    }

    private static void promise17Belief() {
        CasketLines x = housed(TWO_TRUE);
        belief(x, 0, 0, 1, 2);
        belief(x, 1, 0, 0, 1);
        belief(x, 2, 0, 1, 2);
        belief(x, 0, 1, 1, 4);
        belief(x, 2, 1, 3, 4);
        belief(x, 2, 2, 9, 10);
        belief(x, 2, 5, 243, 244);
        belief(x, 1, 5, 0, 1);
        belief(x, 1, 6, OUTSIDE, OUTSIDE);
        belief(x, 1, -1, OUTSIDE, OUTSIDE);
        for (int c : WRONG_CASKETS) {
            belief(x, c, 9, UNKNOWN, UNKNOWN);
        }
        x.sing(0);
        belief(x, 0, 1, 2, 3);
        belief(x, 2, 1, 1, 3);
        x.sing(1);
        x.sing(2);
        belief(x, 0, 3, 1, 2);
        CasketLines sure = housed("G9D000");
        belief(sure, 0, 0, 1, 1);
        belief(sure, 0, 1, 0, 1);
        belief(housed("G9D050"), 0, 0, 0, 1);
    }

    private static void promise18Judge() {
        CasketLines x = housed("G2" + LINES + "W0W2");
        long[] before = Due.sight(x);
        int[][] rows = {
            {1, 0, NONE}, {1, 10, NONE}, {1, 11, 0}, {1, 12, NONE}, {1, 13, 0}, {1, 22, NONE}, {1, 23, 0},
            {1, 1, 0}, {1, 9, 0}, {1, 30, 0}, {1, 99, 0}, {2, 1010, 1}, {2, 1011, NONE}, {2, 2020, NONE},
            {2, 0, NONE}, {3, 0, 2}, {2, 1000, NONE}, {3, 100000, 2}, {4, 20000000, 2}, {4, 10111012, NONE},
            {4, 10111011, NONE}, {4, 10111010, 3}, {4, 10111013, 3}, {4, 99999999, 0}, {4, 0, 2}, {3, 1200, NONE},
            {1, 100, OUTSIDE}, {2, 10000, OUTSIDE}, {4, 100000000, OUTSIDE}, {1, -1, OUTSIDE},
            {4, Integer.MIN_VALUE, OUTSIDE}, {4, Integer.MAX_VALUE, OUTSIDE}, {0, 0, OUTSIDE}, {5, 0, OUTSIDE},
            {-1, 0, OUTSIDE}, {Integer.MAX_VALUE, 0, OUTSIDE}};
        for (int[] row : rows) {
            is("18: judge(" + row[0] + ", " + row[1] + ")", row[2], x.judge(row[0], row[1]));
        }
        Due.same("18: judge", before, Due.sight(x));
        x.sing(0);
        x.attempt();
        is("18: she is wed", 0, x.judge(1, 0));
        is("18: it may be moved", 1, x.judge(2, 1200));
    }

    private static void share(CasketLines x, int c, int above, int below) {
        fraction("19: share(" + c + ")", above, below, x.share(c, true), x.share(c, false));
    }

    private static void promise19Share() {
        CasketLines x = housed(TWO_TRUE);
        // Any two of the lines shut casket 1 out, one alone shuts out nothing.
        for (int c = 0; c < 3; c++) {
            share(x, c, 1, 3);
        }
        for (int c : WRONG_CASKETS) {
            share(x, c, UNKNOWN, UNKNOWN);
        }
        // One that calls itself false shuts out all; the other nothing.
        CasketLines paradox = housed("G9C050C000");
        share(paradox, 0, 2, 1);
        share(paradox, 1, 0, 1);
        // None true: line 1 ("not here") leaves 1 alone; 0 and 2 shut out a casket each.
        CasketLines none = housed(NONE_TRUE);
        share(none, 0, 1, 2);
        share(none, 1, 1, 1);
        share(none, 2, 1, 2);
        share(housed("G4C000D000"), 0, 0, 1);
    }

    private static void rests(String text, int many, int first) {
        CasketLines x = housed(text);
        is("20: rests(0) of " + text, many, x.rests(0));
        is("20: rests(1) of " + text, first, x.rests(1));
    }

    private static void promise20Rests() {
        rests("G9", 1, 0);
        rests("G9C050", 1, 0);
        rests("G9C000", 1, 11);
        rests(NONE_TRUE, 1, 22);
        rests(TWO_TRUE, 2, 13);
        rests(ANY_TRUE, 6, 12);
        rests("G9C000C000C000C000", 12, 12);
        CasketLines x = housed(TWO_TRUE);
        is("20: rests(2)", OUTSIDE, x.rests(2));
        is("20: rests(-1)", OUTSIDE, x.rests(-1));
    }

    private static void lost(CasketLines x, int c, int t, int above, int below) {
        fraction("21: lost(" + c + ", " + t + ")", above, below, x.lost(c, t, true), x.lost(c, t, false));
    }

    private static void promise21Lost() {
        CasketLines x = housed(NONE_TRUE);
        // Line 1 alone, any two lines, or all three let casket 1 alone fit.
        lost(x, 1, 0, 1, 1);
        lost(x, 1, 5, 5, 8);
        lost(x, 1, 3, 847, 1000);
        lost(x, 1, 10, 0, 1);
        lost(x, 0, 5, 0, 1);
        lost(x, 0, 11, OUTSIDE, OUTSIDE);
        lost(x, 0, -1, OUTSIDE, OUTSIDE);
        for (int c : WRONG_CASKETS) {
            lost(x, c, 11, UNKNOWN, UNKNOWN);
        }
        lost(housed("G9C000"), 0, 10, 1, 1);
        lost(housed("G9C050"), 0, 7, 7, 10);
    }

    private static void promise22Seed() {
        CasketLines x = new CasketLines();
        is("22: at first", 0, x.seed(Long.MIN_VALUE));
        is("22: seed", Long.MIN_VALUE, x.seed(-1));
        is("22: seed", -1, x.seed(Long.MAX_VALUE));
        is("22: seed", Long.MAX_VALUE, x.seed(3));
        Due.write(x, TWO_TRUE);
        x.house();
        is("22: seed behind a house", 3, x.seed(3));
    }

    private static void promise23Houses() {
        for (long start : new long[] {0, 5, -1, 123456789123456789L, Long.MIN_VALUE}) {
            for (String text : new String[] {TWO_TRUE, ANY_TRUE, "G1C000D133C230C341", "G9C000", "G9"}) {
                CasketLines x = housed(text);
                CasketLines mended = housed(text);
                x.seed(start);
                long seed = start;
                int together = 0;
                for (int i = 0; i < 20; i++) {
                    seed = seed * 6364136223846793005L + 1442695040888963407L;
                    int left = (int) (Long.divideUnsigned(seed, 1L << 33) % 96);
                    mended.mend(left / 24, left % 24 / 4, left % 4);
                    together += Integer.bitCount(mended.count(5));
                }
                long[] before = Due.sight(x);
                is("23: houses(20) of " + text + " by " + start, together, x.houses(20));
                is("23: seed behind it", seed, x.seed(start));
                Due.same("23: houses", before, Due.sight(x));
                x.houses(1);
                is("23: the seed goes on by one", start * 6364136223846793005L + 1442695040888963407L, x.seed(start));
            }
        }
        CasketLines x = housed(TWO_TRUE);
        x.seed(9);
        is("23: houses(0)", OUTSIDE, x.houses(0));
        is("23: houses(21)", OUTSIDE, x.houses(21));
        is("23: houses(-1)", OUTSIDE, x.houses(-1));
        is("23: refused, the seed stays", 9, x.seed(9));
    }

    private static void promise24Keep() {
        CasketLines x = housed(TWO_TRUE);
        is("24: keep(0)", 0, x.keep(0));
        x.attempt();
        x.sing(1);
        is("24: keep(1)", 1, x.keep(1));
        is("24: the row stays", 2, x.count(9));
        is("24: keep(2)", UNKNOWN, x.keep(2));
        is("24: keep(-1)", UNKNOWN, x.keep(-1));
        is("24: undo()", 1, x.undo());
        is("24: over what was kept", 1, x.keep(1));
        x.sing(2);
        is("24: again(1)", 1, x.again(1));
        is("24: 1 is not sung", 0, x.casket(1, 3));
        is("24: 2 is not sung", 0, x.casket(2, 3));
    }

    private static void promise25Again() {
        CasketLines x = housed(TWO_TRUE);
        is("25: nothing was kept", STATE, x.again(0));
        is("25: again(2)", UNKNOWN, x.again(2));
        is("25: again(-1)", UNKNOWN, x.again(-1));
        x.sing(0);
        x.mend(2, 1, 1);
        x.attempt();
        is("25: wed", 1, x.count(8));
        x.keep(0);
        long[] kept = Due.sight(x);
        // Going on from a slot empties the row; of all that is seen only that differs.
        kept[9] = 0;
        x.undo();
        x.undo();
        x.undo();
        x.move(2);
        x.keep(1);
        is("25: again(0)", 1, x.again(0));
        Due.same("25: again(0)", kept, Due.sight(x));
        is("25: the row is empty", STATE, x.undo());
        is("25: wed once more", STATE, x.attempt());
        is("25: again(1)", 0, x.again(1));
        is("25: picture", 2, x.count(4));
        is("25: not wed", 0, x.count(8));
        is("25: not tried", NONE, x.wooer(0, 2));
        x.mend(0, 5, 3);
        is("25: a slot can be gone on from once more", 1, x.again(0));
        Due.same("25: again(0) once more", kept, Due.sight(x));
        CasketLines picks = housed(TWO_TRUE);
        picks.attempt();
        picks.attempt();
        picks.keep(0);
        picks.undo();
        picks.sing(0);
        picks.sing(1);
        is("25: another pick", 2, picks.attempt());
        is("25: again(0), two have tried", 2, picks.again(0));
        is("25: what it picked when it was kept", 0, picks.wooer(1, 2));
        CasketLines fresh = new CasketLines();
        is("25: keep without a house", 0, fresh.keep(1));
        is("25: again without a house", 0, fresh.again(1));
        is("25: the other slot", STATE, fresh.again(0));
    }

    private static void promise26Count() {
        CasketLines x = housed(TWO_TRUE);
        x.sing(0);
        x.attempt();
        int[] due = {TWO_TRUE.length(), 3, 4, 2, 1, 5, 2, 1, 1, 2};
        for (int what = 0; what < due.length; what++) {
            is("26: count(" + what + ")", due[what], x.count(what));
        }
        is("26: count(10)", OUTSIDE, x.count(10));
        is("26: count(-1)", OUTSIDE, x.count(-1));
        is("26: count(min)", OUTSIDE, x.count(Integer.MIN_VALUE));
    }
}
