/** Promises 13 to 18: each sentence that names an edge, by what stands just inside it and just outside. */
public final class RiddleEdgesTest {
    private static final int UNKNOWN = Made.UNKNOWN, OUTSIDE = Made.OUTSIDE, NONE = Made.NONE;
    private static final int LEAST = Integer.MIN_VALUE, GREATEST = Integer.MAX_VALUE;

    public static void main(String[] args) {
        linesUnknown();
        linesNoneAndNought();
        linesOfFourCaskets();
        riddleKinds();
        riddleOfNoMending();
        riddleOfOneMending();
        riddleOfTwoMendings();
        riddleOfThreeMendings();
        riddleOfOneCasket();
        songsUnknown();
        songsOfNoneAndOfAllOthers();
        songsBesidesThoseThatAre();
        songsNone();
        saidUnknown();
        saidHowMany();
        saidNone();
        saidWithoutPicture();
        beliefUnknown();
        beliefOutside();
        beliefBehindNoneAndFive();
        beliefThatCanNotBe();
        judgeHowManyDoings();
        judgeRow();
        judgeLeadingNoughts();
        judgeTried();
        judgeMoved();
        judgeSung();
        judgeFiguresThatTellNothing();
        judgePlaces();
        judgeWithAFullRow();
        asksChangeNothing();
        Due.end();
    }

    private static void is(String call, long want, long got) {
        Due.is(call, want, got);
    }

    // ---- 13 "LINES (bits) that are true in all READINGS with a CASKET .., in some ..; NONE: there are none. UNKNOWN."

    private static void linesUnknown() {
        for (int c : Made.NOT_OF_THREE) {
            Due.changesNothing("13: lines(" + c + ", true)", UNKNOWN, Made::busy, x -> x.lines(c, true));
            Due.changesNothing("13: lines(" + c + ", false)", UNKNOWN, Made::busy, x -> x.lines(c, false));
            is("13: lines(" + c + ", true), no reading", UNKNOWN, Made.noReading().lines(c, true));
        }
        for (int c : Made.NOT_OF_FOUR) {
            Due.changesNothing("13: lines(" + c + ", true), full", UNKNOWN, Made::full, x -> x.lines(c, true));
        }
    }

    private static void linesNoneAndNought() {
        CasketLines x = Made.twoTrue();
        is("13: no reading with 1, in all", NONE, x.lines(1, true));
        is("13: no reading with 1, in some", NONE, x.lines(1, false));
        CasketLines none = Due.housed("G0" + Made.LINES);
        is("13: a reading with 1, no true line, in all", 0, none.lines(1, true));
        is("13: a reading with 1, no true line, in some", 0, none.lines(1, false));
        is("13: no reading with 0", NONE, none.lines(0, false));
        CasketLines either = Due.housed("G9C040");
        is("13: true in one of two readings, in all", 0, either.lines(0, true));
        is("13: true in one of two readings, in some", 1, either.lines(0, false));
    }

    private static void linesOfFourCaskets() {
        String free = "C040C041C042C043";
        for (int c = 0; c < 4; c++) {
            is("13: all four, in all", 15, Due.housed("G4" + free).lines(c, true));
            is("13: all four, in some", 15, Due.housed("G4" + free).lines(c, false));
            is("13: as they like, in all", 0, Due.housed("G9" + free).lines(c, true));
            is("13: as they like, in some", 15, Due.housed("G9" + free).lines(c, false));
            is("13: none of four, in some", 0, Due.housed("G0" + free).lines(c, false));
            is("13: just the line on " + c, 1 << c, Due.housed("G1C000C000C000C000").lines(c, true));
        }
    }

    // ---- 14 "RIDDLE: how many (row = false), the row (row = true); NONE. OUTSIDE: kinds (0 to 15)."

    private static void riddle(String told, CasketLines x, int kinds, int many, int row) {
        is("14: " + told + ", riddle(" + kinds + ", false)", many, x.riddle(kinds, false));
        is("14: " + told + ", riddle(" + kinds + ", true)", row, x.riddle(kinds, true));
    }

    private static void riddleKinds() {
        for (int kinds : new int[] {-1, 16, 17, 31, 32, LEAST, GREATEST}) {
            Due.changesNothing("14: riddle(" + kinds + ", true)", OUTSIDE, Made::busy, x -> x.riddle(kinds, true));
            Due.changesNothing("14: riddle(" + kinds + ", false)", OUTSIDE, Made::busy, x -> x.riddle(kinds, false));
            riddle("no picture", Made.noPicture(), kinds, OUTSIDE, OUTSIDE);
            riddle("new", Made.fresh(), kinds, OUTSIDE, OUTSIDE);
        }
        riddle("the least number of kinds", Made.twoTrue(), 0, 0, 0);
        riddle("the greatest number of kinds", Due.housed("G9D000"), 15, 0, 0);
    }

    /** "0: none". */
    private static void riddleOfNoMending() {
        CasketLines x = Made.twoTrue();
        // They pick 0, 0, 0 and 2.
        riddle("picture in 1", x, 0, 0, 0);
        x.move(0);
        riddle("picture in 0", x, 7, 0, 0);
        x.move(2);
        riddle("picture in 2", x, 8, 0, 0);
    }

    private static void riddleOfOneMending() {
        // Casket 0, sort 0, a 0: the row is 0 then too.
        riddle("one mending told by noughts", Due.housed("G1D253C052"), 1, 1, 0);
        // All must be true and three are, wherever it is; the last line alone can say where.
        CasketLines last = Due.housed("G4C040C041C042D053");
        riddle("the last line", last, 14, NONE, NONE);
        riddle("the last line", last, 12, 1, 300);
    }

    private static void riddleOfTwoMendings() {
        // Both lines call themselves false, so both must be mended for anything to fit.
        riddle("two of two lines", Due.housed("G1C050D151"), 12, 2, 132);
        riddle("the last two of four lines", Due.housed("G9C000C000C052D053"), 8, 2, 200300);
        riddle("the last two of four lines", Due.housed("G1C000C000C052D053"), 12, 2, 210320);
        // "on unlike CASKETS": "here" and "in casket 2" both on casket 0 would shut it out, no other two do.
        riddle("two lines on one casket", Due.housed("G9C002D001"), 12, NONE, NONE);
    }

    /** "the fewest LINES to be MENDED (0 to 2 ..)". */
    private static void riddleOfThreeMendings() {
        CasketLines x = Due.housed("G1C050D151C252");
        riddle("three would do", x, 12, NONE, NONE);
        is("14: mended one", 52, x.mend(2, 4, 3));
        riddle("two do", x, 12, 2, 132);
        x.mend(0, 0, 0);
        riddle("one does", x, 12, 1, 132);
        x.mend(1, 3, 2);
        riddle("none is needed", x, 12, 0, 0);
    }

    private static void riddleOfOneCasket() {
        for (int kinds = 0; kinds < 15; kinds++) {
            riddle("one casket", Due.housed("G1D050"), kinds, NONE, NONE);
        }
        riddle("one casket", Due.housed("G1D050"), 15, 0, 0);
    }

    // ---- 15 "SONGS, as bits; NONE. UNKNOWN."

    private static void songsUnknown() {
        for (int w : new int[] {-1, 4, 5, 6, 32, LEAST, GREATEST}) {
            Due.changesNothing("15: songs(" + w + ")", UNKNOWN, Made::busy, x -> x.songs(w));
            is("15: songs(" + w + "), no picture", UNKNOWN, Made.noPicture().songs(w));
        }
        Due.changesNothing("15: songs(6), full", UNKNOWN, Made::full, x -> x.songs(6));
        Due.changesNothing("15: songs(-1), full", UNKNOWN, Made::full, x -> x.songs(-1));
    }

    private static void songsOfNoneAndOfAllOthers() {
        is("15: none is needed", 0, Due.housed("G9D000C000W0").songs(0));
        is("15: all that are dearer", 14, Due.housed("G9D300C200C100C000W1").songs(0));
        is("15: all ahead of the last", 7, Due.housed("G9C000C000C000D000W0").songs(0));
        is("15: the sixth wooer", 1, Due.housed("G9C000D000W0W0W0W0W0W0").songs(5));
        // Nothing fits, or what fits is sung: as a dull one.
        CasketLines none = Made.noReading();
        int[] due = {1, 4, 1, 1};
        for (int w = 0; w < 4; w++) {
            is("15: no reading, songs(" + w + ")", due[w], none.songs(w));
        }
        CasketLines beside = Made.twoTrue();
        is("15: all that fit, and all ahead", 5, beside.songs(2));
    }

    /** "SUNG besides those that are, and no others". */
    private static void songsBesidesThoseThatAre() {
        CasketLines x = Due.housed("G9C000C000C000D000W0");
        x.sing(1);
        is("15: 1 is sung", 5, x.songs(0));
        x.sing(0);
        is("15: 0 and 1 are", 4, x.songs(0));
        x.sing(2);
        is("15: none is needed any more", 0, x.songs(0));
    }

    private static void songsNone() {
        CasketLines x = Made.twoTrue();
        x.sing(1);
        for (int w = 0; w < 4; w++) {
            is("15: the picture's casket is sung, songs(" + w + ")", NONE, x.songs(w));
            is("15: no picture, songs(" + w + ")", NONE, Made.noPicture().songs(w));
            is("15: all sung, songs(" + w + ")", NONE, Made.allSung().songs(w));
            is("15: no caskets, songs(" + w + ")", NONE, Made.noCaskets().songs(w));
        }
    }

    // ---- 16 "SAID: how many (first = false), the first (first = true); NONE. UNKNOWN."

    private static void said(String told, CasketLines x, int casket, int many, int first) {
        is("16: " + told + ", said(" + casket + ", false)", many, x.said(casket, false));
        is("16: " + told + ", said(" + casket + ", true)", first, x.said(casket, true));
    }

    private static void saidUnknown() {
        for (int c : Made.NOT_OF_THREE) {
            Due.changesNothing("16: said(" + c + ", true)", UNKNOWN, Made::busy, x -> x.said(c, true));
            Due.changesNothing("16: said(" + c + ", false)", UNKNOWN, Made::busy, x -> x.said(c, false));
            said("no picture", Made.noPicture(), c, UNKNOWN, UNKNOWN);
        }
        for (int c : Made.NOT_OF_FOUR) {
            Due.changesNothing("16: said(" + c + ", true), full", UNKNOWN, Made::full, x -> x.said(c, true));
        }
    }

    private static void saidHowMany() {
        // Any line but one that calls itself false.
        said("one casket", Due.housed("G9D050"), 0, 23, 0);
        // A line that is true wherever it is: not in, or not true, what there is not.
        said("two caskets", Due.housed("G1D030C152"), 1, 4, 32);
        said("just one, of four caskets", Due.housed("G1C230C140C220D150"), 0, 1, 33);
        said("the last of four caskets", Due.housed("G1C033C241C351D343"), 3, 14, 10);
    }

    /** "NONE (of the latter ..)": how many is 0 then. */
    private static void saidNone() {
        said("more are to be true than there are", Due.housed("G2D000"), 0, 0, NONE);
        said("the other line calls itself false", Due.housed("G9D000C051"), 0, 0, NONE);
        CasketLines elsewhere = Due.housed("G9D000C000");
        elsewhere.move(1);
        said("no line here tells the two apart", elsewhere, 0, 0, NONE);
    }

    private static void saidWithoutPicture() {
        CasketLines x = Due.housed("G9C000");
        said("no picture", x, 0, 0, NONE);
        x.move(0);
        said("the picture has come", x, 0, 23, 0);
        x.undo();
        said("the picture is gone again", x, 0, 0, NONE);
    }

    // ---- 17 "BELIEF. UNKNOWN; OUTSIDE: f."

    private static void belief(String told, CasketLines x, int casket, int f, int above, int below) {
        is("17: " + told + ", belief(" + casket + ", " + f + ") above", above, x.belief(casket, f, true));
        is("17: " + told + ", belief(" + casket + ", " + f + ") below", below, x.belief(casket, f, false));
    }

    private static void beliefUnknown() {
        for (int c : Made.NOT_OF_THREE) {
            for (int f : new int[] {0, 6, -1}) {
                Due.changesNothing("17: belief(" + c + ", " + f + ", true)", UNKNOWN, Made::busy, x -> x.belief(c, f, true));
                belief("refused below too", Made.busy(), c, f, UNKNOWN, UNKNOWN);
            }
        }
        for (int c : Made.NOT_OF_FOUR) {
            Due.changesNothing("17: belief(" + c + ", 0, false)", UNKNOWN, Made::full, x -> x.belief(c, 0, false));
        }
    }

    private static void beliefOutside() {
        for (int f : new int[] {-1, 6, 7, 32, LEAST, GREATEST}) {
            for (int c = 0; c < 3; c++) {
                int casket = c;
                Due.changesNothing("17: belief(" + c + ", " + f + ", true)", OUTSIDE, Made::busy,
                    x -> x.belief(casket, f, true));
                belief("refused below too", Made.busy(), c, f, OUTSIDE, OUTSIDE);
                belief("no reading", Made.noReading(), c, f, OUTSIDE, OUTSIDE);
            }
        }
    }

    /** "behind f (0 to 5)". */
    private static void beliefBehindNoneAndFive() {
        // All four fit; two kinds pick casket 0, two pick casket 3.
        CasketLines x = Due.housed(Made.LARGEST);
        int[] outer = {1, 1, 1, 1, 1, 1};
        int[] belowOuter = {4, 6, 10, 18, 34, 66};
        int[] inner = {1, 1, 2, 4, 8, 16};
        int[] belowInner = {4, 3, 5, 9, 17, 33};
        for (int f = 0; f <= 5; f++) {
            belief("picked", x, 0, f, outer[f], belowOuter[f]);
            belief("not picked", x, 1, f, inner[f], belowInner[f]);
            belief("not picked", x, 2, f, inner[f], belowInner[f]);
            belief("picked", x, 3, f, outer[f], belowOuter[f]);
        }
    }

    /** "0 for all, if none of this can be". */
    private static void beliefThatCanNotBe() {
        CasketLines sure = Due.housed("G9D000");
        belief("behind nobody", sure, 0, 0, 1, 1);
        for (int f = 1; f <= 5; f++) {
            belief("all would have picked it", sure, 0, f, 0, 1);
        }
        CasketLines two = Due.housed("G1C000D043");
        belief("it alone fits", two, 0, 0, 1, 1);
        belief("it alone fits and all pick it", two, 0, 1, 0, 1);
        belief("it does not fit", two, 1, 0, 0, 1);
        belief("it does not fit, none of this can be", two, 1, 1, 0, 1);
        belief("no reading", Due.housed("G9D050"), 0, 0, 0, 1);
    }

    // ---- 18 "JUDGED; NONE. OUTSIDE: n, row (0 or more, 2 n figures at most)."

    private static void judgeHowManyDoings() {
        for (int n : new int[] {0, 5, -1, 6, LEAST, GREATEST}) {
            for (int row : new int[] {0, 10, -1, GREATEST}) {
                Due.changesNothing("18: judge(" + n + ", " + row + ")", OUTSIDE, Made::busy, x -> x.judge(n, row));
            }
            is("18: judge(" + n + ", 0), new", OUTSIDE, Made.fresh().judge(n, 0));
        }
        // Songs can always be: once, and four times.
        is("18: one doing", NONE, Made.busy().judge(1, 20));
        is("18: two doings", NONE, Made.busy().judge(2, 2020));
        is("18: three doings", NONE, Made.busy().judge(3, 202020));
        is("18: four doings", NONE, Made.busy().judge(4, 20202020));
    }

    private static void judgeRow() {
        int[] firstTooLong = {100, 10000, 1000000, 100000000};
        for (int n = 1; n <= 4; n++) {
            int doings = n;
            int bound = firstTooLong[n - 1];
            for (int row : new int[] {bound, bound + 1, bound + bound / 5, -1, LEAST, GREATEST}) {
                Due.changesNothing("18: judge(" + n + ", " + row + ")", OUTSIDE, Made::busy, x -> x.judge(doings, row));
                is("18: judge(" + n + ", " + row + "), new", OUTSIDE, Made.fresh().judge(n, row));
            }
            is("18: judge(" + n + ", " + (bound - 1) + ")", 0, Made.busy().judge(n, bound - 1));
            is("18: judge(" + n + ", 0)", n == 4 ? 3 : NONE, Made.busy().judge(n, 0));
        }
    }

    /** Figures that a number does not show are noughts ahead of it: doings that come first. */
    private static void judgeLeadingNoughts() {
        CasketLines x = Due.housed("G2" + Made.LINES + "W0W2");
        is("18: tried, moved to 0", NONE, x.judge(2, 10));
        is("18: tried twice, moved to where it is", 2, x.judge(3, 11));
        is("18: tried three times, sung", 2, x.judge(4, 20));
        is("18: tried four times", 2, x.judge(4, 0));
    }

    private static void judgeTried() {
        is("18: no wooers", 0, Made.noWooers().judge(1, 0));
        is("18: the last wooer", NONE, Made.twoTrue().judge(4, 0));
        is("18: all have tried", 0, Made.full().judge(1, 0));
        is("18: she is wed", 0, Made.wed().judge(1, 0));
        is("18: she is wed, and it is moved away", 1, Made.wed().judge(2, 1000));
        is("18: sung, wed, none may try", 2, Made.twoTrue().judge(3, 200000));
        is("18: moved there, wed, none may try", 2, Made.twoTrue().judge(3, 100000));
        is("18: one that can pick nothing", NONE, Made.allSung().judge(1, 0));
        CasketLines last = Made.twoTrue();
        last.attempt();
        is("18: three are left", NONE, last.judge(3, 0));
        is("18: a fourth is not", 3, last.judge(4, 0));
    }

    private static void judgeMoved() {
        CasketLines x = Made.twoTrue();
        is("18: to the first", NONE, x.judge(1, 10));
        is("18: to where it is", 0, x.judge(1, 11));
        is("18: to the last", NONE, x.judge(1, 12));
        is("18: to where there is none", 0, x.judge(1, 13));
        is("18: to where there is none", 0, x.judge(1, 19));
        is("18: there and back", NONE, x.judge(2, 1011));
        is("18: there, and there once more", 1, x.judge(2, 1010));
        is("18: the last of four", NONE, Due.housed(Made.LARGEST).judge(1, 13));
        is("18: beyond the last of four", 0, Due.housed(Made.LARGEST).judge(1, 14));
        is("18: from nowhere", NONE, Made.noPicture().judge(1, 10));
        is("18: from nowhere, there once more", 1, Made.noPicture().judge(2, 1010));
        is("18: no caskets", 0, Made.bare().judge(1, 10));
    }

    private static void judgeSung() {
        CasketLines x = Made.twoTrue();
        is("18: the first", NONE, x.judge(1, 20));
        is("18: the last", NONE, x.judge(1, 22));
        is("18: none such", 0, x.judge(1, 23));
        is("18: none such", 0, x.judge(1, 29));
        is("18: all sung, then tried", NONE, x.judge(4, 20212200));
        is("18: the last of four", NONE, Due.housed(Made.LARGEST).judge(1, 23));
        is("18: beyond the last of four", 0, Due.housed(Made.LARGEST).judge(1, 24));
        is("18: no caskets", 0, Made.bare().judge(1, 20));
    }

    private static void judgeFiguresThatTellNothing() {
        CasketLines x = Due.housed(Made.LARGEST);
        for (int casket = 1; casket <= 9; casket++) {
            is("18: figures 0 and " + casket, 0, x.judge(1, casket));
        }
        for (int row = 30; row <= 99; row++) {
            is("18: figures " + row, 0, x.judge(1, row));
        }
        is("18: the second tells nothing", 1, x.judge(2, 2030));
        is("18: the fourth tells nothing", 3, x.judge(4, 20202001));
    }

    private static void judgePlaces() {
        CasketLines x = Made.twoTrue();
        is("18: the first can not be", 0, x.judge(4, 11202020));
        is("18: the second can not be", 1, x.judge(4, 20112020));
        is("18: the third can not be", 2, x.judge(4, 20201120));
        is("18: the fourth can not be", 3, x.judge(4, 20202011));
        is("18: the first of several", 1, x.judge(4, 20111313));
        is("18: all can be", NONE, x.judge(4, 20101112));
    }

    /** Fourteen acts stand in the row, and more can be; what is judged is not done, so none is forgotten. */
    private static void judgeWithAFullRow() {
        Due.changesNothing("18: judge, full", NONE, Made::full, x -> x.judge(4, 20212223));
        Due.changesNothing("18: judge, full", 1, Made::full, x -> x.judge(4, 10102020));
    }

    /** "In what follows nothing is changed." */
    private static void asksChangeNothing() {
        Due.changesNothing("13: lines", 6, Made::busy, x -> x.lines(2, true));
        Due.changesNothing("14: riddle, how many", 2, Made::twoTrue, x -> x.riddle(12, false));
        Due.changesNothing("14: riddle, the row", 132, () -> Due.housed("G1C050D151"), x -> x.riddle(12, true));
        Due.changesNothing("14: riddle, none", NONE, Made::busy, x -> x.riddle(3, true));
        Due.changesNothing("15: songs", 5, Made::twoTrue, x -> x.songs(2));
        Due.changesNothing("15: songs, none", NONE, Made::busy, x -> x.songs(3));
        Due.changesNothing("16: said", 10, Made::busy, x -> x.said(1, true));
        Due.changesNothing("17: belief", 1, Made::busy, x -> x.belief(2, 5, true));
        Due.changesNothing("18: judge", NONE, Made::busy, x -> x.judge(4, 22001020));
        Due.changesNothing("18: judge that can not be", 3, Made::busy, x -> x.judge(4, 20001010));
    }
}
