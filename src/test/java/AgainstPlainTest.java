import java.util.Random;

/** Random runs of calls, of the program and of the plain model, from fixed seeds: every answer must be the same. */
public final class AgainstPlainTest {
    private final Random random;
    private final CasketLines x = new CasketLines();
    private final PlainHouse y = new PlainHouse();
    private final int run;

    private AgainstPlainTest(int run) {
        this.run = run;
        this.random = new Random(run);
    }

    /** Mostly from 0 to below n, at times a step outside, seldom far outside. */
    private int about(int n) {
        int way = random.nextInt(40);
        if (way == 0) {
            return -1;
        }
        if (way == 1) {
            return n;
        }
        if (way == 2) {
            int[] far = {Integer.MIN_VALUE, Integer.MAX_VALUE, -9, 31, 32, 64, 255, 256, 1 << 30};
            return far[random.nextInt(far.length)];
        }
        return random.nextInt(n);
    }

    private void is(String call, long want, long got) {
        Due.is("run " + run + ": " + call, want, got);
    }

    private String someText() {
        StringBuilder text = new StringBuilder("G").append("0122349999".charAt(random.nextInt(10)));
        boolean pictured = random.nextInt(8) == 0;
        int caskets = random.nextInt(12) == 0 ? random.nextInt(6) : 2 + random.nextInt(3);
        int wooers = random.nextInt(12) == 0 ? random.nextInt(8) : 2 + random.nextInt(5);
        while (caskets + wooers > 0) {
            if (random.nextInt(caskets + wooers) < caskets) {
                boolean here = !pictured && (random.nextInt(3) == 0 || caskets == 1);
                pictured |= here;
                text.append(here ? 'D' : 'C').append(random.nextInt(4)).append(random.nextInt(6))
                    .append(random.nextInt(4));
                caskets--;
            } else {
                text.append('W').append(random.nextInt(4));
                wooers--;
            }
        }
        if (random.nextInt(6) == 0) {
            int place = random.nextInt(text.length());
            text.setCharAt(place, "GCDW0123456789x".charAt(random.nextInt(15)));
        }
        if (random.nextInt(10) == 0) {
            text.setLength(random.nextInt(text.length() + 1));
        }
        return text.toString();
    }

    private void newHouse() {
        is("wipe()", y.wipe(), x.wipe());
        String text = someText();
        for (int i = 0; i < text.length(); i++) {
            is("write", y.write(text.charAt(i)), x.write(text.charAt(i)));
            if (random.nextInt(8) == 0) {
                is("fault() of " + y.text, y.fault(), x.fault());
            }
        }
        is("fault() of " + text, y.fault(), x.fault());
        is("house() of " + text, y.house(), x.house());
    }

    private void act() {
        int c = about(4);
        switch (random.nextInt(9)) {
            case 0: case 1: is("attempt()", y.attempt(), x.attempt()); break;
            case 2: case 3: {
                int sort = about(6);
                int a = about(4);
                is("mend(" + c + ", " + sort + ", " + a + ")", y.mend(c, sort, a), x.mend(c, sort, a));
                break;
            }
            case 4: is("move(" + c + ")", y.move(c), x.move(c)); break;
            case 5: case 6: is("sing(" + c + ")", y.sing(c), x.sing(c)); break;
            case 7: is("undo()", y.undo(), x.undo()); break;
            default: {
                int slot = about(2);
                if (random.nextBoolean()) {
                    is("keep(" + slot + ")", y.keep(slot), x.keep(slot));
                } else {
                    is("again(" + slot + ")", y.again(slot), x.again(slot));
                }
            }
        }
    }

    private void ask() {
        int c = about(4);
        boolean yes = random.nextBoolean();
        switch (random.nextInt(14)) {
            case 0: is("lines(" + c + ")", y.lines(c, yes), x.lines(c, yes)); break;
            case 1: {
                if (random.nextInt(3) == 0) {
                    int kinds = about(16);
                    is("riddle(" + kinds + ", " + yes + ")", y.riddle(kinds, yes), x.riddle(kinds, yes));
                }
                break;
            }
            case 2: {
                int w = about(6);
                is("songs(" + w + ")", y.songs(w), x.songs(w));
                break;
            }
            case 3: is("said(" + c + ", " + yes + ")", y.said(c, yes), x.said(c, yes)); break;
            case 4: {
                int f = about(6);
                is("belief(" + c + ", " + f + ", " + yes + ")", y.belief(c, f, yes), x.belief(c, f, yes));
                break;
            }
            case 5: judge(); break;
            case 6: is("share(" + c + ", " + yes + ")", y.share(c, yes), x.share(c, yes)); break;
            case 7: {
                int what = about(2);
                is("rests(" + what + ")", y.rests(what), x.rests(what));
                break;
            }
            case 8: {
                int t = about(11);
                is("lost(" + c + ", " + t + ", " + yes + ")", y.lost(c, t, yes), x.lost(c, t, yes));
                break;
            }
            case 9: {
                int m = 1 + about(20);
                is("houses(" + m + ")", y.houses(m), x.houses(m));
                break;
            }
            case 10: {
                long v = random.nextLong();
                is("seed(" + v + ")", y.seed(v), x.seed(v));
                break;
            }
            case 11: {
                int what = about(6);
                is("casket(" + c + ", " + what + ")", y.casket(c, what), x.casket(c, what));
                break;
            }
            case 12: {
                int w = about(6);
                int what = about(3);
                is("wooer(" + w + ", " + what + ")", y.wooer(w, what), x.wooer(w, what));
                break;
            }
            default: {
                int what = about(10);
                is("count(" + what + ")", y.count(what), x.count(what));
            }
        }
    }

    private void judge() {
        int n = 1 + about(4);
        int row = 0;
        for (int i = 0; i < n && i < 4; i++) {
            int[] doings = {0, 10 + random.nextInt(4), 20 + random.nextInt(4), random.nextInt(100)};
            row = row * 100 + doings[random.nextInt(20) == 0 ? 3 : random.nextInt(3)];
        }
        if (random.nextInt(20) == 0) {
            row = random.nextInt();
        }
        is("judge(" + n + ", " + row + ")", y.judge(n, row), x.judge(n, row));
    }

    private void look() {
        for (int what = 0; what <= 9; what++) {
            is("count(" + what + ")", y.count(what), x.count(what));
        }
        for (int c = 0; c < 4; c++) {
            for (int what = 0; what <= 5; what++) {
                is("casket(" + c + ", " + what + ")", y.casket(c, what), x.casket(c, what));
            }
        }
        for (int w = 0; w < 6; w++) {
            for (int what = 0; what <= 2; what++) {
                is("wooer(" + w + ", " + what + ")", y.wooer(w, what), x.wooer(w, what));
            }
        }
    }

    /** Three parts of some 160 calls: an object is good for 512. */
    private void go() {
        for (int part = 0; part < 3; part++) {
            if (part > 0 || run % 10 != 0) {
                newHouse();
            }
            for (int i = 0; i < 60; i++) {
                if (random.nextInt(3) == 0) {
                    act();
                } else {
                    ask();
                }
            }
            look();
        }
    }

    public static void main(String[] args) {
        int runs = args.length > 0 ? Integer.parseInt(args[0]) : 400;
        for (int run = 0; run < runs; run++) {
            new AgainstPlainTest(run).go();
        }
        Due.end();
    }
}
