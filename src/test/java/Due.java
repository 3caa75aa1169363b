import java.util.Arrays;

/** Compares answers with those that are due, and ends a test's main with the code that fits. */
final class Due {
    /** One call, or a few, on an object. */
    interface Call {
        long on(CasketLines x);
    }

    /** Makes an object and brings it somewhere; twice made, the two are alike. */
    interface Making {
        CasketLines make();
    }

    private static int looked = 0;
    private static int wrong = 0;

    private Due() {
    }

    static void is(String call, long want, long got) {
        looked++;
        if (want != got) {
            wrong++;
            if (wrong <= 40) {
                System.out.println(call + " answered " + got + ", due is " + want);
            }
        }
    }

    /** Every number that a call without effect can show of an object, so that two objects can be compared. */
    static long[] sight(CasketLines x) {
        Numbers all = new Numbers();
        for (int what = 0; what <= 9; what++) {
            all.add(x.count(what));
        }
        for (int casket = 0; casket < 4; casket++) {
            for (int what = 0; what <= 5; what++) {
                all.add(x.casket(casket, what));
            }
        }
        for (int wooer = 0; wooer < 6; wooer++) {
            for (int what = 0; what <= 2; what++) {
                all.add(x.wooer(wooer, what));
            }
        }
        all.add(x.fault());
        long seed = x.seed(0);
        x.seed(seed);
        all.add(seed);
        return all.row();
    }

    /** What acts change, in few calls. */
    static long[] glance(CasketLines x) {
        Numbers all = new Numbers();
        all.add(x.count(4));
        all.add(x.count(7));
        all.add(x.count(8));
        for (int casket = 0; casket < 4; casket++) {
            for (int what = 1; what <= 3; what++) {
                all.add(x.casket(casket, what));
            }
        }
        return all.row();
    }

    /**
     * All that an object can tell, also what only later calls bring to light: the acts behind one another,
     * the slots, the text. The object is used up by it (some 370 calls of the 512 that it is good for).
     */
    static long[] trail(CasketLines x) {
        Numbers all = new Numbers();
        all.addAll(sight(x));
        for (int i = 0; i < 15; i++) {
            long left = x.undo();
            all.add(left);
            if (left < 0) {
                break;
            }
            all.addAll(glance(x));
        }
        for (int slot = 0; slot < 2; slot++) {
            all.add(x.again(slot));
            all.addAll(glance(x));
        }
        all.add(x.house());
        all.addAll(sight(x));
        return all.row();
    }

    static void same(String call, long[] before, long[] behind) {
        is(call + " (what it leaves as it was)", 1, Arrays.equals(before, behind) ? 1 : 0);
    }

    /** The call answers so, and all later answers are those of an object that was never asked. */
    static void changesNothing(String told, long want, Making like, Call call) {
        CasketLines asked = like.make();
        is(told, want, call.on(asked));
        same(told, trail(like.make()), trail(asked));
    }

    static void write(CasketLines x, String text) {
        for (int i = 0; i < text.length(); i++) {
            x.write(text.charAt(i));
        }
    }

    /** A new object whose house is the text. */
    static CasketLines housed(String text) {
        CasketLines x = new CasketLines();
        write(x, text);
        x.house();
        return x;
    }

    static void end() {
        System.out.println(looked + " answers looked at, " + wrong + " not as due");
        if (wrong != 0 || looked == 0) {
            System.exit(1);
        }
    }

    /** A row of numbers that grows. */
    private static final class Numbers {
        private final long[] row = new long[512];
        private int size = 0;

        void add(long number) {
            row[size++] = number;
        }

        void addAll(long[] numbers) {
            for (long number : numbers) {
                add(number);
            }
        }

        long[] row() {
            return Arrays.copyOf(row, size);
        }
    }
}
