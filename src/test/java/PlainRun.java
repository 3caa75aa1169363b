import java.util.Random;
import java.util.Set;
import java.util.TreeSet;
import java.util.function.LongSupplier;

/**
 * One run from a fixed seed: each call goes to the program and to the plain model, and both must answer the
 * same. A run never asks more of its object than the document promises; calls behind the last one are let be.
 */
final class PlainRun {
    static final int MOST_CALLS = 512;
    static final String[] CALLS = {
        "write", "wipe", "fault", "house", "casket", "wooer", "attempt", "mend", "move", "sing", "undo", "lines",
        "riddle", "songs", "said", "belief", "judge", "share", "rests", "lost", "seed", "houses", "keep", "again",
        "count"};
    private static final int[] FAR = {
        Integer.MIN_VALUE, Integer.MAX_VALUE, -9, 31, 32, 64, 255, 256, 1 << 30};

    private final CasketLines x = new CasketLines();
    private final PlainHouse y = new PlainHouse();
    private final int run;
    private final Random random;
    private int most = MOST_CALLS;
    private int calls = 0;
    private int housesMade = 0;
    private String last = "";
    private final Set<String> seen = new TreeSet<>();

    PlainRun(int run) {
        this.run = run;
        this.random = new Random(run);
    }

    int calls() {
        return calls;
    }

    int housesMade() {
        return housesMade;
    }

    /** The name of the call that came last. */
    String last() {
        return last;
    }

    /** The names of all calls that came. */
    Set<String> seen() {
        return seen;
    }

    boolean isOver() {
        return calls >= most;
    }

    /** So many calls are made, and no more until this is told anew. */
    void stopAt(int many) {
        most = Math.min(many, MOST_CALLS);
    }

    boolean chance(int oneOf) {
        return random.nextInt(oneOf) == 0;
    }

    int below(int n) {
        return random.nextInt(n);
    }

    private void is(String call, LongSupplier due, LongSupplier answer) {
        if (isOver()) {
            return;
        }
        calls++;
        last = call.substring(0, call.indexOf('('));
        seen.add(last);
        long want = due.getAsLong();
        Due.is("run " + run + ", call " + calls + ": " + call, want, answer.getAsLong());
        if (last.equals("house") && want >= 0) {
            housesMade++;
        }
    }

    /** Mostly from 0 to below n, at times a step outside, seldom far outside. */
    private int about(int n) {
        switch (below(40)) {
            case 0: return -1;
            case 1: return n;
            case 2: return FAR[below(FAR.length)];
            default: return below(n);
        }
    }

    // ---- houses

    private String someText() {
        StringBuilder text = new StringBuilder("G").append("0122349999".charAt(below(10)));
        boolean pictured = chance(8);
        int caskets = chance(12) ? below(6) : 2 + below(3);
        int wooers = chance(12) ? below(8) : 2 + below(5);
        while (caskets + wooers > 0) {
            if (below(caskets + wooers) < caskets) {
                boolean here = !pictured && (chance(3) || caskets == 1);
                pictured |= here;
                text.append(here ? 'D' : 'C').append(below(4)).append(below(6)).append(below(4));
                caskets--;
            } else {
                text.append('W').append(below(4));
                wooers--;
            }
        }
        return text.toString();
    }

    /** A text of which a letter is another, or the end is missing, or which is too long, or that is as it should be. */
    private String faultyText() {
        StringBuilder text = new StringBuilder(someText());
        if (chance(6)) {
            text.setCharAt(below(text.length()), "GCDW0123456789x".charAt(below(15)));
        }
        if (chance(10)) {
            text.setLength(below(text.length() + 1));
        }
        if (chance(20)) {
            text.append("W0".repeat(20)).setLength(38 + below(5));
        }
        return text.toString();
    }

    /** Most texts become a house; of some it is refused. */
    void newHouse() {
        wipe();
        for (char letter : faultyText().toCharArray()) {
            is("write(" + (int) letter + ")", () -> y.write(letter), () -> x.write(letter));
            if (chance(8)) {
                fault();
            }
        }
        fault();
        house();
    }

    // ---- a call of each promise

    /** The call of that number in CALLS, with arguments by chance. */
    void make(int call) {
        switch (CALLS[call]) {
            case "write": write(); break;
            case "wipe": wipe(); break;
            case "fault": fault(); break;
            case "house": house(); break;
            case "casket": casket(about(4), about(6)); break;
            case "wooer": wooer(about(6), about(3)); break;
            default: makeOther(CALLS[call], about(4), chance(2));
        }
    }

    private void makeOther(String call, int c, boolean yes) {
        switch (call) {
            case "attempt": is("attempt()", y::attempt, x::attempt); break;
            case "mend": mend(c, about(6), about(4)); break;
            case "move": is("move(" + c + ")", () -> y.move(c), () -> x.move(c)); break;
            case "sing": is("sing(" + c + ")", () -> y.sing(c), () -> x.sing(c)); break;
            case "undo": is("undo()", y::undo, x::undo); break;
            case "lines": is("lines(" + c + ", " + yes + ")", () -> y.lines(c, yes), () -> x.lines(c, yes)); break;
            case "riddle": riddle(about(16), yes); break;
            case "songs": songs(about(6)); break;
            case "said": is("said(" + c + ", " + yes + ")", () -> y.said(c, yes), () -> x.said(c, yes)); break;
            case "belief": belief(c, about(6), yes); break;
            case "judge": judge(1 + about(4)); break;
            case "share": is("share(" + c + ", " + yes + ")", () -> y.share(c, yes), () -> x.share(c, yes)); break;
            case "rests": rests(about(2)); break;
            case "lost": lost(c, about(11), yes); break;
            case "seed": seed(random.nextLong()); break;
            case "houses": houses(1 + about(20)); break;
            case "keep": keep(about(2)); break;
            case "again": again(about(2)); break;
            default: count(about(10));
        }
    }

    private void write() {
        int letter = chance(3) ? about(256) : "GCDW0123459".charAt(below(11));
        is("write(" + letter + ")", () -> y.write(letter), () -> x.write(letter));
    }

    private void wipe() {
        is("wipe()", y::wipe, x::wipe);
    }

    private void fault() {
        is("fault() of " + y.text, y::fault, x::fault);
    }

    private void house() {
        is("house() of " + y.text, y::house, x::house);
    }

    private void casket(int c, int what) {
        is("casket(" + c + ", " + what + ")", () -> y.casket(c, what), () -> x.casket(c, what));
    }

    private void wooer(int w, int what) {
        is("wooer(" + w + ", " + what + ")", () -> y.wooer(w, what), () -> x.wooer(w, what));
    }

    private void mend(int c, int sort, int a) {
        is("mend(" + c + ", " + sort + ", " + a + ")", () -> y.mend(c, sort, a), () -> x.mend(c, sort, a));
    }

    private void riddle(int kinds, boolean yes) {
        is("riddle(" + kinds + ", " + yes + ")", () -> y.riddle(kinds, yes), () -> x.riddle(kinds, yes));
    }

    private void songs(int w) {
        is("songs(" + w + ")", () -> y.songs(w), () -> x.songs(w));
    }

    private void belief(int c, int f, boolean yes) {
        is("belief(" + c + ", " + f + ", " + yes + ")", () -> y.belief(c, f, yes), () -> x.belief(c, f, yes));
    }

    private void judge(int n) {
        int figures = 0;
        for (int i = 0; i < n && i < 4; i++) {
            int[] doings = {0, 10 + below(4), 20 + below(4), below(100)};
            figures = figures * 100 + doings[chance(20) ? 3 : below(3)];
        }
        int row = chance(20) ? random.nextInt() : figures;
        is("judge(" + n + ", " + row + ")", () -> y.judge(n, row), () -> x.judge(n, row));
    }

    private void rests(int what) {
        is("rests(" + what + ")", () -> y.rests(what), () -> x.rests(what));
    }

    private void lost(int c, int tenths, boolean yes) {
        is("lost(" + c + ", " + tenths + ", " + yes + ")", () -> y.lost(c, tenths, yes), () -> x.lost(c, tenths, yes));
    }

    private void seed(long v) {
        is("seed(" + v + ")", () -> y.seed(v), () -> x.seed(v));
    }

    private void houses(int m) {
        is("houses(" + m + ")", () -> y.houses(m), () -> x.houses(m));
    }

    private void keep(int slot) {
        is("keep(" + slot + ")", () -> y.keep(slot), () -> x.keep(slot));
    }

    private void again(int slot) {
        is("again(" + slot + ")", () -> y.again(slot), () -> x.again(slot));
    }

    private void count(int what) {
        is("count(" + what + ")", () -> y.count(what), () -> x.count(what));
    }

    // ---- many calls

    private void makeOneOf(String names) {
        String[] row = names.split(" ");
        String name = row[below(row.length)];
        for (int call = 0; call < CALLS.length; call++) {
            if (CALLS[call].equals(name)) {
                make(call);
            }
        }
    }

    void act() {
        makeOneOf("attempt attempt mend mend move sing sing undo keep again");
    }

    /** A riddle is seldom asked for: the plain model takes long over it. */
    void ask() {
        makeOneOf(chance(40) ? "riddle"
            : "lines songs said belief judge share rests lost seed houses casket wooer count");
    }

    /** All that can be asked of the house without a question of its own. */
    void look() {
        for (int what = 0; what <= 9; what++) {
            count(what);
        }
        for (int c = 0; c < 4; c++) {
            for (int what = 0; what <= 5; what++) {
                casket(c, what);
            }
        }
        for (int w = 0; w < 6; w++) {
            for (int what = 0; what <= 2; what++) {
                wooer(w, what);
            }
        }
    }
}
