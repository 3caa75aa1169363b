import java.util.function.IntFunction;

/** Promises 1 to 7: each sentence that names an edge, by what stands just inside it and just outside. */
public final class HouseEdgesTest {
    private static final int UNKNOWN = Made.UNKNOWN, OUTSIDE = Made.OUTSIDE, STATE = Made.STATE;
    private static final int FULL = Made.FULL, NONE = Made.NONE;

    public static void main(String[] args) {
        constants();
        writeTakesNoughtTo255();
        writeRefusesOtherLetters();
        writeTakesForty();
        writeRefusesTheFortyFirst();
        writeNamesOutsideFirst();
        wipeOfAFullText();
        wipeLeavesTheRest();
        faultOpening();
        faultTruth();
        faultFigures();
        faultPictureOnce();
        faultFourCaskets();
        faultSixWooers();
        faultOnlyNotAtItsEnd();
        faultIsTheFirst();
        faultIsAskedAnew();
        faultChangesNothing();
        houseRefusesFaults();
        houseOfAllParts();
        houseMadeAnewIsAsTold();
        houseMadeAnewForgets();
        houseMadeSmaller();
        casketWhat();
        casketUnknown();
        casketReadings();
        linesOfNoCasket();
        wooerWhat();
        wooerUnknown();
        wooerPicksOfLikeMetals();
        wooerPicksAsADullOne();
        wooerPicked();
        Due.end();
    }

    private static void is(String call, long want, long got) {
        Due.is(call, want, got);
    }

    private static void constants() {
        is("1: UNKNOWN", -1, CasketLines.UNKNOWN);
        is("1: OUTSIDE", -2, CasketLines.OUTSIDE);
        is("1: STATE", -3, CasketLines.STATE);
        is("1: FULL", -4, CasketLines.FULL);
        is("1: NONE", -9, CasketLines.NONE);
    }

    // ---- 2 "A letter (0 to 255) comes behind THE TEXT: how long it is. OUTSIDE; FULL: there are 40."

    private static void writeTakesNoughtTo255() {
        CasketLines x = new CasketLines();
        is("2: write(0)", 1, x.write(0));
        is("2: write(255)", 2, x.write(255));
        is("2: write(1)", 3, x.write(1));
        is("2: write(254)", 4, x.write(254));
        is("2: write(128)", 5, x.write(128));
        is("2: letters", 5, x.count(0));
        is("2: letter 0 is a letter", 0, x.fault());
    }

    private static void writeRefusesOtherLetters() {
        // 327 and -185 would be a G if only eight bits were looked at.
        int[] wrong = {-1, 256, 327, -185, Integer.MIN_VALUE, Integer.MAX_VALUE};
        for (int letter : wrong) {
            Due.changesNothing("2: write(" + letter + "), new", OUTSIDE, Made::fresh, x -> x.write(letter));
            Due.changesNothing("2: write(" + letter + "), busy", OUTSIDE, Made::busy, x -> x.write(letter));
        }
        CasketLines x = new CasketLines();
        x.write('G');
        x.write(-1);
        x.write(256);
        is("2: refused letters are not in the text", 2, x.write('9'));
        is("2: it is a house", 0, x.house());
    }

    private static void writeTakesForty() {
        CasketLines x = new CasketLines();
        for (int i = 1; i <= 40; i++) {
            is("2: write, letter " + i, i, x.write(i % 256));
        }
        is("2: letters", 40, x.count(0));
    }

    private static void writeRefusesTheFortyFirst() {
        Due.changesNothing("2: write, there are 40", FULL, Made::full, x -> x.write('W'));
        Due.changesNothing("2: write(0), there are 40", FULL, Made::full, x -> x.write(0));
        Due.changesNothing("2: write(255), there are 40", FULL, Made::full, x -> x.write(255));
        CasketLines x = Made.full();
        is("2: write once more", FULL, x.write('W'));
        is("2: letters stay", 40, x.count(0));
        is("2: wipe()", 40, x.wipe());
        is("2: there is room again", 1, x.write('W'));
    }

    private static void writeNamesOutsideFirst() {
        Due.changesNothing("2: write(256), there are 40", OUTSIDE, Made::full, x -> x.write(256));
        Due.changesNothing("2: write(-1), there are 40", OUTSIDE, Made::full, x -> x.write(-1));
    }

    // ---- 3 "THE TEXT is empty: how long it was."

    private static void wipeOfAFullText() {
        CasketLines x = Made.full();
        is("3: wipe() of 40", 40, x.wipe());
        is("3: wipe() of none", 0, x.wipe());
        Due.write(x, "G0");
        is("3: what was there is gone", NONE, x.fault());
        is("3: wipe() of 2", 2, x.wipe());
    }

    private static void wipeLeavesTheRest() {
        CasketLines wiped = Made.busy();
        is("3: wipe()", 8, wiped.wipe());
        Due.write(wiped, "G1D321W2");
        Due.same("3: wipe(), but for the text", Due.trail(Made.busy()), Due.trail(wiped));
        Due.changesNothing("3: wipe() of an empty text", 0, Made::fresh, CasketLines::wipe);
    }

    // ---- 4 "FAULT; NONE."

    private static void fault(String text, int want) {
        CasketLines x = new CasketLines();
        Due.write(x, text);
        is("4: fault() of '" + text + "'", want, x.fault());
        is("4: house() of '" + text + "' is refused", want == NONE ? 0 : 1, x.house() == STATE ? 1 : 0);
    }

    private static void faultOpening() {
        fault("", 0);
        fault("G", 1);
        for (char letter : new char[] {'F', 'H', 'g', 'C', '9', 0, 255, 'G' + 128}) {
            fault(String.valueOf(letter), 0);
            fault(letter + "9", 0);
        }
    }

    /** "TRUE (0 to 4, 9: any)". */
    private static void faultTruth() {
        for (char letter = 0; letter < 256; letter++) {
            fault("G" + letter, letter >= '0' && letter <= '4' || letter == '9' ? NONE : 1);
        }
    }

    /** All letters at a place where a figure from 0 to a bound is told. */
    private static void figures(int place, char last, IntFunction<String> text) {
        for (char letter = 0; letter < 256; letter++) {
            fault(text.apply(letter), letter >= '0' && letter <= last ? NONE : place);
        }
    }

    /** METAL 0 to 3, SORT 0 to 5, a 0 to 3, KIND 0 to 3. */
    private static void faultFigures() {
        figures(3, '3', metal -> "G9C" + (char) metal + "00");
        figures(3, '3', metal -> "G9D" + (char) metal + "00");
        figures(4, '5', sort -> "G9C0" + (char) sort + "0");
        figures(4, '5', sort -> "G9D0" + (char) sort + "0");
        figures(5, '3', a -> "G9C00" + (char) a);
        figures(5, '3', a -> "G9D00" + (char) a);
        figures(3, '3', kind -> "G9W" + (char) kind);
        for (char letter = 0; letter < 256; letter++) {
            boolean opens = letter == 'C' || letter == 'D' || letter == 'W';
            fault("G9" + letter, opens ? 3 : 2);
            fault("G9W0" + letter, opens ? 5 : 4);
        }
    }

    /** "with the PICTURE in it (once at most)". */
    private static void faultPictureOnce() {
        fault("G9D000", NONE);
        fault("G9D000D", 6);
        fault("G9D000D000", 6);
        fault("G9D000C000D000", 10);
        fault("G9C000D000C000W0D000", 16);
        fault("G9C000C000C000D000", NONE);
    }

    /** "CASKETS (4 at most)". */
    private static void faultFourCaskets() {
        fault("G9C000C000C000C000", NONE);
        fault("G9C000C000C000C000C", 18);
        fault("G9C000C000C000C000D", 18);
        fault("G9C000C000C000C000W0C000", 20);
        fault("G9C000C000C000C000W0", NONE);
        fault("G9D000C000C000C000C000", 18);
        fault("G9C000C000C000C00", 17);
    }

    /** "WOOERS (6 at most)". */
    private static void faultSixWooers() {
        fault("G9W0W1W2W3W0W1", NONE);
        fault("G9W0W1W2W3W0W1W", 14);
        fault("G9W0W1W2W3W0W1W0", 14);
        fault("G9W0W1W2W3W0W1C000", NONE);
        fault("G9W0W1W2W3W0W1C000W0", 18);
        fault("G9W0W1W2W3W0W", 13);
        fault(Made.LARGEST, NONE);
        fault(Made.LARGEST + "W", 30);
        fault(Made.LARGEST + "C", 30);
        fault(Made.LARGEST + "WWWWWWWWWW", 30);
    }

    /** "its length, if it is only not at its end". */
    private static void faultOnlyNotAtItsEnd() {
        String text = "G3C353W3D000";
        boolean[] ends = {false, false, true, false, false, false, true, false, true, false, false, false, true};
        for (int length = 0; length <= text.length(); length++) {
            fault(text.substring(0, length), ends[length] ? NONE : length);
        }
    }

    /** "the place of the first letter by which THE TEXT can be no HOUSE, whatever came behind it". */
    private static void faultIsTheFirst() {
        fault("X9C000", 0);
        fault("G5C400W4", 1);
        fault("G9C400W4", 3);
        fault("G9C060W4", 4);
        fault("G9C004W4", 5);
        fault("G9C000W4C4", 7);
        fault("G9C000C", 7);
        fault("G9C0" + "0".repeat(36), 6);
        fault("0".repeat(40), 0);
        fault(Made.LARGEST.substring(0, 29) + "4" + "0".repeat(10), 29);
    }

    private static void faultIsAskedAnew() {
        CasketLines x = Due.housed(Made.LARGEST);
        is("4: fault()", NONE, x.fault());
        is("4: fault() once more", NONE, x.fault());
        x.write('W');
        is("4: a seventh wooer", 30, x.fault());
        x.wipe();
        Due.write(x, "G9D000W0");
        is("4: another text", NONE, x.fault());
    }

    private static void faultChangesNothing() {
        Due.changesNothing("4: fault(), new", 0, Made::fresh, CasketLines::fault);
        Due.changesNothing("4: fault(), busy", NONE, Made::busy, CasketLines::fault);
        Due.changesNothing("4: fault(), full", 30, Made::full, CasketLines::fault);
    }

    // ---- 5 "THE TEXT is THE HOUSE ..: 10 times CASKETS, and WOOERS. STATE: a FAULT."

    private static CasketLines busyWith(String text) {
        CasketLines x = Made.busy();
        x.wipe();
        Due.write(x, text);
        return x;
    }

    private static void houseRefusesFaults() {
        Due.changesNothing("5: house() of no text, new", STATE, Made::fresh, CasketLines::house);
        Due.changesNothing("5: house() of 40 letters", STATE, Made::full, CasketLines::house);
        String[] wrong = {"", "G", "G5", "X9", "G0C000D111C222C333C000", "G0W0W1W2W3W0W1W2", "G0D000D000", "G0C222W4",
            "G0C2", "G0C22", "G0C222W"};
        for (String text : wrong) {
            Due.changesNothing("5: house() of '" + text + "'", STATE, () -> busyWith(text), CasketLines::house);
        }
    }

    private static void houseOfAllParts() {
        CasketLines x = new CasketLines();
        Due.write(x, Made.LARGEST);
        is("5: house() of all parts", 46, x.house());
        is("5: caskets", 4, x.count(1));
        is("5: wooers", 6, x.count(2));
        int[][] caskets = {{3, 0, 0}, {2, 1, 1}, {1, 2, 2}, {0, 4, 3}};
        for (int c = 0; c < 4; c++) {
            for (int what = 0; what < 3; what++) {
                is("5: casket(" + c + ", " + what + ")", caskets[c][what], x.casket(c, what));
            }
        }
        int[] kinds = {0, 1, 2, 3, 2, 1};
        for (int w = 0; w < 6; w++) {
            is("5: wooer(" + w + ", 0)", kinds[w], x.wooer(w, 0));
        }
        is("5: the text stays", 30, x.count(0));
        is("5: four caskets alone", 40, Due.housed("G9C000C000C000C000").house());
        is("5: six wooers alone", 6, Due.housed("G9W0W0W0W0W0W0").house());
    }

    /** "numbered as they are told, each for itself". */
    private static void houseMadeAnewIsAsTold() {
        CasketLines x = Made.busy();
        is("5: another house", 11, x.house());
        is("5: TRUE", 1, x.count(3));
        is("5: picture", 0, x.count(4));
        is("5: metal", 3, x.casket(0, 0));
        is("5: kind", 2, x.wooer(0, 0));
        x.wipe();
        Due.write(x, "G9W3C123W1C000W2");
        is("5: a house without a picture", 23, x.house());
        is("5: no picture", NONE, x.count(4));
        is("5: the casket behind a wooer", 1, x.casket(0, 0));
        is("5: the wooer behind a casket", 1, x.wooer(1, 0));
        x.wipe();
        Due.write(x, "G9C000C000C000D000");
        is("5: house() with the picture in the last one", 40, x.house());
        is("5: the last one", 3, x.count(4));
    }

    /** "THE ROW of ACTS is empty, what was kept is gone; THE SEED stays"; "nobody has TRIED, nothing is SUNG". */
    private static void houseMadeAnewForgets() {
        CasketLines x = Made.full();
        x.seed(Long.MIN_VALUE);
        x.wipe();
        Due.write(x, Made.LARGEST);
        is("5: house() once more", 46, x.house());
        is("5: acts", 0, x.count(9));
        is("5: undo()", STATE, x.undo());
        is("5: tried", 0, x.count(7));
        for (int w = 0; w < 6; w++) {
            is("5: wooer(" + w + ", 2)", NONE, x.wooer(w, 2));
        }
        for (int c = 0; c < 4; c++) {
            is("5: casket(" + c + ", 3)", 0, x.casket(c, 3));
        }
        is("5: again(0)", STATE, x.again(0));
        is("5: again(1)", STATE, x.again(1));
        is("5: the seed", Long.MIN_VALUE, x.seed(0));
        CasketLines wed = Made.wed();
        wed.house();
        is("5: not wed any more", 0, wed.count(8));
        is("5: the first tries", 0, wed.attempt());
    }

    private static void houseMadeSmaller() {
        CasketLines x = Due.housed(Made.LARGEST);
        x.sing(3);
        x.wipe();
        Due.write(x, "G1C043W3");
        is("5: a smaller house", 11, x.house());
        is("5: casket(1, 0)", UNKNOWN, x.casket(1, 0));
        is("5: casket(3, 3)", UNKNOWN, x.casket(3, 3));
        is("5: wooer(1, 0)", UNKNOWN, x.wooer(1, 0));
        // The line on casket 3 called itself true; there is no such casket now, so it is not.
        is("5: what fits", 0, x.count(5));
        is("5: readings", 0, x.count(6));
        is("5: no casket is left of the other house", 1, x.rests(0));
    }

    // ---- 6 "Of a CASKET its METAL (what = 0), .. READINGS with it (5). UNKNOWN; OUTSIDE."

    private static void casketWhat() {
        for (int what : new int[] {-1, 6, Integer.MIN_VALUE, Integer.MAX_VALUE}) {
            for (int c : new int[] {0, 2}) {
                Due.changesNothing("6: casket(" + c + ", " + what + ")", OUTSIDE, Made::busy, x -> x.casket(c, what));
            }
        }
        CasketLines x = Made.busy();
        int[] due = {2, 5, 3, 1, 1, 1};
        for (int what = 0; what <= 5; what++) {
            is("6: casket(2, " + what + ")", due[what], x.casket(2, what));
        }
    }

    private static void casketUnknown() {
        for (int c : Made.NOT_OF_THREE) {
            Due.changesNothing("6: casket(" + c + ", 0)", UNKNOWN, Made::busy, x -> x.casket(c, 0));
            Due.changesNothing("6: casket(" + c + ", 6)", UNKNOWN, Made::busy, x -> x.casket(c, 6));
            Due.changesNothing("6: casket(" + c + ", -1)", UNKNOWN, Made::busy, x -> x.casket(c, -1));
        }
        for (int c : Made.NOT_OF_FOUR) {
            Due.changesNothing("6: casket(" + c + ", 3)", UNKNOWN, Made::full, x -> x.casket(c, 3));
        }
        is("6: casket(3, 3), the last of four", 0, Made.full().casket(3, 3));
    }

    private static void readings(String text, int fits, int many, int withFirst) {
        CasketLines x = Due.housed(text);
        is("6: what fits in " + text, fits, x.count(5));
        is("6: readings of " + text, many, x.count(6));
        is("6: readings of " + text + " with 0", withFirst, x.casket(0, 5));
        is("6: whether 0 fits in " + text, fits & 1, x.casket(0, 4));
    }

    /** "they are as many as TRUE (9: as many as they are)". */
    private static void casketReadings() {
        // Each line calls itself true: any set of lines will do.
        String free = "C040C041C042C043";
        readings("G9" + free, 15, 64, 16);
        readings("G0" + free, 15, 4, 1);
        readings("G1" + free, 15, 16, 4);
        readings("G2" + free, 15, 24, 6);
        readings("G3" + free, 15, 16, 4);
        readings("G4" + free, 15, 4, 1);
        // One line that calls itself false is neither.
        readings("G9C040C041C042C053", 0, 0, 0);
        readings("G9C040", 1, 2, 2);
        readings("G1C040", 1, 1, 1);
        readings("G2C040", 0, 0, 0);
        readings("G4C040C041C042", 0, 0, 0);
    }

    /** "There is no CASKET a: what SORTS 2 and 4 say is not so, what SORTS 3 and 5 say is so." */
    private static void linesOfNoCasket() {
        for (int a = 1; a <= 3; a++) {
            for (int sort = 2; sort <= 5; sort++) {
                int so = sort % 2;
                CasketLines x = Due.housed("G9C0" + sort + a);
                is("6: sort " + sort + " of no casket " + a, so, x.lines(0, true));
                is("6: sort " + sort + " of no casket " + a + ", in some", so, x.lines(0, false));
                readings("G" + so + "C0" + sort + a, 1, 1, 1);
                readings("G" + (1 - so) + "C0" + sort + a, 0, 0, 0);
            }
        }
        // The last casket that there is, and the first that there is not.
        readings("G1C022C023C023", 4, 1, 0);
        readings("G0C022C023C023", 3, 2, 1);
        readings("G0C023C043C023", 7, 3, 1);
        readings("G3C033C053C033", 7, 3, 1);
    }

    // ---- 7 "Of a WOOER its KIND (what = 0), what it would PICK now (1; NONE), what it PICKED (2; NONE ..)."

    private static void wooerWhat() {
        for (int what : new int[] {-1, 3, Integer.MIN_VALUE, Integer.MAX_VALUE}) {
            for (int w : new int[] {0, 3}) {
                Due.changesNothing("7: wooer(" + w + ", " + what + ")", OUTSIDE, Made::busy, x -> x.wooer(w, what));
            }
        }
    }

    private static void wooerUnknown() {
        for (int w : new int[] {-1, 4, 5, 6, 32, Integer.MIN_VALUE, Integer.MAX_VALUE}) {
            for (int what : new int[] {0, 1, 2, 3, -1}) {
                Due.changesNothing("7: wooer(" + w + ", " + what + ")", UNKNOWN, Made::busy, x -> x.wooer(w, what));
            }
        }
        Due.changesNothing("7: wooer(6, 0), full", UNKNOWN, Made::full, x -> x.wooer(6, 0));
        Due.changesNothing("7: wooer(-1, 0), full", UNKNOWN, Made::full, x -> x.wooer(-1, 0));
        is("7: wooer(5, 0), the last of six", 1, Made.full().wooer(5, 0));
    }

    /** "that of dearest METAL (of like ones the least)". */
    private static void wooerPicksOfLikeMetals() {
        is("7: all of the least metal", 0, Due.housed("G9C300C300C300C300W1").wooer(0, 1));
        is("7: all of the dearest metal", 0, Due.housed("G9C000C000C000C000W1").wooer(0, 1));
        is("7: two dearest ones", 1, Due.housed("G9C300C200C200C300W1").wooer(0, 1));
        is("7: the dearest is the last", 3, Due.housed("G9C300C200C100C000W1").wooer(0, 1));
        CasketLines x = Due.housed("G9C300C200C200C300W1");
        int[] picks = {1, 2, 0, 3};
        for (int pick : picks) {
            is("7: the dearest that is open", pick, x.wooer(0, 1));
            x.sing(pick);
        }
        is("7: none is open", NONE, x.wooer(0, 1));
    }

    /** "the least that FITS (none: as a DULL one)", of caskets that are not sung. */
    private static void wooerPicksAsADullOne() {
        // Twice "not in 0", twice "not in 3", and all four are true.
        CasketLines x = Due.housed("G4C030C033C330C333W0W2W3");
        is("7: what fits", 6, x.count(5));
        int[][] picks = {{0, 1, 2}, {0, 2, 2}, {0, 0, 0}, {3, 3, 3}, {NONE, NONE, NONE}};
        int[] songs = {1, 2, 0, 3};
        for (int step = 0; step < picks.length; step++) {
            for (int w = 0; w < 3; w++) {
                is("7: step " + step + ", wooer(" + w + ", 1)", picks[step][w], x.wooer(w, 1));
            }
            if (step < songs.length) {
                x.sing(songs[step]);
            }
        }
    }

    /** "what it PICKED (2; NONE: it has not TRIED, or could not)". */
    private static void wooerPicked() {
        CasketLines x = Made.twoTrue();
        is("7: has not tried", NONE, x.wooer(0, 2));
        x.attempt();
        is("7: has tried", 0, x.wooer(0, 2));
        is("7: the next has not", NONE, x.wooer(1, 2));
        x.sing(0);
        is("7: what it picked stays", 0, x.wooer(0, 2));
        is("7: what it would pick now", 1, x.wooer(0, 1));
        x.sing(1);
        x.sing(2);
        x.attempt();
        is("7: could not", NONE, x.wooer(1, 2));
        x.undo();
        x.undo();
        x.undo();
        x.undo();
        x.undo();
        is("7: undone, has not tried", NONE, x.wooer(0, 2));
    }
}
