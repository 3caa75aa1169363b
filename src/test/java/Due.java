import java.util.Arrays;

/** Compares answers with those that are due, and ends a test's main with the code that fits. */
final class Due {
    private static int looked = 0;
    private static int wrong = 0;

    private Due() {
    }

    static void is(String call, long want, long got) {
        looked++;
        if (want != got) {
            wrong++;
            if (wrong <= 40) {
                System.out.println(call + " answered " + got + ", due is " + want);
            }
        }
    }

    /** Every number that a call without effect can show of an object, so that two objects can be compared. */
    static long[] sight(CasketLines x) {
        long[] all = new long[128];
        int n = 0;
        for (int what = 0; what <= 9; what++) {
            all[n++] = x.count(what);
        }
        for (int casket = 0; casket < 4; casket++) {
            for (int what = 0; what <= 5; what++) {
                all[n++] = x.casket(casket, what);
            }
        }
        for (int wooer = 0; wooer < 6; wooer++) {
            for (int what = 0; what <= 2; what++) {
                all[n++] = x.wooer(wooer, what);
            }
        }
        all[n++] = x.fault();
        long seed = x.seed(0);
        x.seed(seed);
        all[n++] = seed;
        return Arrays.copyOf(all, n);
    }

    static void same(String call, long[] before, long[] behind) {
        is(call + " (what it leaves as it was)", 1, Arrays.equals(before, behind) ? 1 : 0);
    }

    static void write(CasketLines x, String text) {
        for (int i = 0; i < text.length(); i++) {
            x.write(text.charAt(i));
        }
    }

    /** A new object whose house is the text. */
    static CasketLines housed(String text) {
        CasketLines x = new CasketLines();
        write(x, text);
        x.house();
        return x;
    }

    static void end() {
        System.out.println(looked + " answers looked at, " + wrong + " not as due");
        if (wrong != 0 || looked == 0) {
            System.exit(1);
        }
    }
}
