import java.util.Arrays;
import java.util.Set;
import java.util.TreeSet;

/**
 * An object is used for 512 calls: runs of just so many on one object, in which the calls of all promises come
 * and houses are made anew, each answer held against what is due, up to the 512th.
 */
public final class FullRunTest {
    private static final int STATE = -3, NONE = -9;
    private static final int ROUNDS = 8;
    private static final int CALLS_OF_A_ROUND = 64;

    /** Calls on the object of the rounds so far. */
    private static int calls = 0;

    public static void main(String[] args) {
        rounds();
        byChance(args.length > 0 ? Integer.parseInt(args[0]) : 100);
        Due.end();
    }

    // ---- the same round of calls eight times: a house made anew must know nothing of what was before it

    private static void rounds() {
        CasketLines x = new CasketLines();
        for (int round = 1; round <= ROUNDS; round++) {
            told(x);
            asked(x);
            chances(x);
            acted(x);
            goneOn(x);
            Due.is("calls behind round " + round, round * CALLS_OF_A_ROUND, calls);
        }
        Due.is("calls of all rounds", PlainRun.MOST_CALLS, calls);
    }

    private static void is(String call, long want, long got) {
        calls++;
        Due.is("call " + calls + ": " + call, want, got);
    }

    private static void told(CasketLines x) {
        // By where it is, true are lines 0 and 1 (casket 0), none (casket 1), 1 and 2 (casket 2).
        String text = "G2" + Made.LINES + "W0W3";
        for (int i = 0; i < text.length(); i++) {
            is("write", i + 1, x.write(text.charAt(i)));
        }
        is("fault()", NONE, x.fault());
        is("house()", 32, x.house());
        is("again(0), what was kept is gone", STATE, x.again(0));
        is("undo(), the row is empty", STATE, x.undo());
    }

    private static void asked(CasketLines x) {
        is("count(5)", 5, x.count(5));
        is("count(6)", 2, x.count(6));
        is("casket(2, 1)", 2, x.casket(2, 1));
        is("wooer(1, 1)", 2, x.wooer(1, 1));
        is("lines(0, true)", 3, x.lines(0, true));
        is("riddle(12, true)", 10130, x.riddle(12, true));
        is("songs(1)", 5, x.songs(1));
        is("said(0, false)", 0, x.said(0, false));
        is("said(1, true)", NONE, x.said(1, true));
        is("belief(2, 2, true)", 9, x.belief(2, 2, true));
        is("belief(2, 2, false)", 10, x.belief(2, 2, false));
        is("judge(2, 1010)", 1, x.judge(2, 1010));
    }

    private static void chances(CasketLines x) {
        is("share(0, true)", 1, x.share(0, true));
        is("share(0, false)", 3, x.share(0, false));
        is("rests(0)", 2, x.rests(0));
        is("rests(1)", 13, x.rests(1));
        is("seed(5)", 0, x.seed(5));
        is("houses(20)", 25, x.houses(20));
        is("seed(0)", 6906002813012847257L, x.seed(0));
    }

    private static void acted(CasketLines x) {
        is("keep(0)", 0, x.keep(0));
        is("mend(0, 1, 0)", 0, x.mend(0, 1, 0));
        is("mend(1, 3, 0)", 10, x.mend(1, 3, 0));
        // Casket 1 alone fits, and only if no line is lost.
        is("lost(1, 1, true)", 729, x.lost(1, 1, true));
        is("lost(1, 1, false)", 1000, x.lost(1, 1, false));
        is("sing(0)", 1, x.sing(0));
        is("attempt()", 1, x.attempt());
        is("attempt(), she is wed", STATE, x.attempt());
        is("move(2)", 1, x.move(2));
        is("count(8)", 1, x.count(8));
        is("count(9)", 5, x.count(9));
        is("undo()", 4, x.undo());
        is("count(4)", 1, x.count(4));
    }

    private static void goneOn(CasketLines x) {
        is("keep(1)", 1, x.keep(1));
        is("again(0)", 0, x.again(0));
        is("casket(0, 3)", 0, x.casket(0, 3));
        is("count(9)", 0, x.count(9));
        is("sing(1)", 1, x.sing(1));
        is("attempt()", 0, x.attempt());
        is("again(1)", 1, x.again(1));
        is("move(0)", 1, x.move(0));
        is("wooer(0, 2)", 1, x.wooer(0, 2));
        is("wipe()", 18, x.wipe());
    }

    // ---- runs by chance, held against the plain model

    /** Each call comes in each run, and in some run as the 512th. */
    private static void byChance(int runs) {
        Set<String> all = new TreeSet<>(Arrays.asList(PlainRun.CALLS));
        Set<String> last = new TreeSet<>();
        int made = 0;
        for (int number = 0; number < runs; number++) {
            PlainRun run = new PlainRun(1_000_000 + number);
            go(run, number % PlainRun.CALLS.length);
            Due.is("run " + number + ": calls", PlainRun.MOST_CALLS, run.calls());
            Due.is("run " + number + ": calls that came " + run.seen(), 1, run.seen().equals(all) ? 1 : 0);
            made += run.housesMade();
            Due.is("run " + number + ": the house was made anew (" + run.housesMade() + ")", 1,
                run.housesMade() >= 2 ? 1 : 0);
            last.add(run.last());
        }
        Due.is("houses made by " + runs + " runs (" + made + ") are four a run or more", 1, made >= 4 * runs ? 1 : 0);
        Due.is("calls that came as the 512th " + last, 1, last.equals(all) ? 1 : 0);
    }

    private static void go(PlainRun run, int lastCall) {
        run.stopAt(PlainRun.MOST_CALLS - 1);
        // The calls of a part are bounded, so are the parts: each makes at least one.
        for (int part = 0; part < PlainRun.MOST_CALLS && !run.isOver(); part++) {
            houseOrGoOn(run);
            onePart(run);
        }
        run.stopAt(PlainRun.MOST_CALLS);
        run.make(lastCall);
    }

    /** A text by chance may be refused: then the house before it goes on for a while, until another is made. */
    private static void houseOrGoOn(PlainRun run) {
        int before = run.housesMade();
        for (int text = 0; text < 4 && run.housesMade() == before; text++) {
            for (int i = 0; text > 0 && i < 6; i++) {
                run.ask();
            }
            run.newHouse();
        }
    }

    private static void onePart(PlainRun run) {
        for (int call = 0; call < PlainRun.CALLS.length; call++) {
            if (run.chance(2)) {
                run.act();
            }
            // What changes the text or the house comes with the next part.
            if (call > 3) {
                run.make(call);
            }
        }
        for (int i = run.below(20); i >= 0; i--) {
            run.ask();
        }
    }
}
