/** Random runs of calls, of the program and of the plain model, from fixed seeds: every answer must be the same. */
public final class AgainstPlainTest {
    private AgainstPlainTest() {
    }

    /** Three parts of some 150 calls, each with a look at all there is behind it. */
    private static void go(int number) {
        PlainRun run = new PlainRun(number);
        for (int part = 0; part < 3; part++) {
            if (part > 0 || number % 10 != 0) {
                run.newHouse();
            }
            for (int i = 0; i < 60; i++) {
                if (run.chance(3)) {
                    run.act();
                } else {
                    run.ask();
                }
            }
            run.look();
        }
    }

    public static void main(String[] args) {
        int runs = args.length > 0 ? Integer.parseInt(args[0]) : 400;
        for (int number = 0; number < runs; number++) {
            go(number);
        }
        Due.end();
    }
}
