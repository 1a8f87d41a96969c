import java.math.BigInteger;

/** Promise 24 at its edges. */
final class SimulateEdgeTests {
    private static final BigInteger FACTOR = BigInteger.valueOf(6364136223846793005L);
    private static final BigInteger SUMMAND = BigInteger.valueOf(1442695040888963407L);
    private static final BigInteger ROOM = BigInteger.ONE.shiftLeft(64);

    private SimulateEdgeTests() {
    }

    static void run(Edges.Book book) {
        Edges e = book.promise(24);
        e.holds("Throws IllegalArgumentException if m is out of range", () ->
            Unchanged.illegalArgument(Scenes::usual, m -> m.simulate(1, 0),
                m -> m.simulate(1, 100), m -> m.simulate(-1, -1),
                m -> m.simulate(0, Integer.MIN_VALUE), m -> m.simulate(0, Integer.MAX_VALUE)));
        e.holds("m: number of steps, 1 to 99", SimulateEdgeTests::numbersOfSteps);
        e.holds("seed: any long", SimulateEdgeTests::anySeed);
        e.holds("Each step first replaces x by x * 6364136223846793005L + 1442695040888963407L"
            + " (with long overflow), and r = (int) (x >>> 33) is computed.",
            SimulateEdgeTests::overflow);
        e.holds("p is r / 16 % 4; if there is no such process, nothing else happens.",
            SimulateEdgeTests::processes);
        e.holds("By r % 8: 0: fork(p).", SimulateEdgeTests::forks);
        e.holds("1: exit(p).", SimulateEdgeTests::exits);
        e.holds("2: marry(p, r / 64 % 4).", SimulateEdgeTests::marries);
        e.holds("3: press(1 + r / 64 % 8).", SimulateEdgeTests::presses);
        e.holds("4 to 7: write(p, r / 64 % 16, r / 1024 % 100).", SimulateEdgeTests::writes);
        e.holds("What is not possible is left out.", SimulateEdgeTests::leftOut);
        e.holds("Returns 1000 * (the copies that are made in them, or 999 if more) + (the tears in"
            + " them, or 999 if more).", SimulateEdgeTests::onlyThoseOfTheSteps);
        e.holds("Simulates m steps on a copy of the state.", () -> {
            Unchanged.by(Scenes::usual, m -> m.simulate(0, 1), m -> m.simulate(0, 99),
                m -> m.simulate(Long.MIN_VALUE, 99));
            Unchanged.by(Scenes::crowded, m -> m.simulate(3, 99));
        });
    }

    /** The seed from which the first step has this r: the step's rule, taken backwards. */
    private static long seedFor(int r) {
        BigInteger x = BigInteger.valueOf(r).shiftLeft(33);
        return x.subtract(SUMMAND).multiply(FACTOR.modInverse(ROOM)).mod(ROOM).longValue();
    }

    private static int step(PageMarriages m, int r) {
        return m.simulate(seedFor(r), 1);
    }

    /** A seed from which the first step has this r, and the second one has this r % 1024. */
    private static long seedFor(int r, int second) {
        for (int low = 0; low < 100_000; low++) {
            BigInteger x = BigInteger.valueOf(r).shiftLeft(33).add(BigInteger.valueOf(low));
            BigInteger next = x.multiply(FACTOR).add(SUMMAND).mod(ROOM);
            if (next.shiftRight(33).intValueExact() % 1024 == second) {
                return x.subtract(SUMMAND).multiply(FACTOR.modInverse(ROOM)).mod(ROOM)
                    .longValue();
            }
        }
        throw new AssertionError("no seed with " + r + " and " + second);
    }

    private static int steps(PageMarriages m, int r, int second) {
        return m.simulate(seedFor(r, second), 2);
    }

    /** The answer that is due, worked out without long overflow, by the calls themselves. */
    private static int due(PageMarriages m, long seed, int steps) {
        int copies = m.about(6);
        int tears = m.about(8);
        BigInteger x = BigInteger.valueOf(seed).mod(ROOM);
        for (int i = 0; i < steps; i++) {
            x = x.multiply(FACTOR).add(SUMMAND).mod(ROOM);
            call(m, x.shiftRight(33).intValueExact());
        }
        return 1000 * (m.about(6) - copies) + m.about(8) - tears;
    }

    private static void call(PageMarriages m, int r) {
        int p = r / 16 % 4;
        try {
            switch (r % 8) {
                case 0 -> m.fork(p);
                case 1 -> m.exit(p);
                case 2 -> m.marry(p, r / 64 % 4);
                case 3 -> {
                    if ((m.about(0) >> p & 1) == 1) {
                        m.press(1 + r / 64 % 8);
                    }
                }
                default -> m.write(p, r / 64 % 16, r / 1024 % 100);
            }
        } catch (IndexOutOfBoundsException | IllegalStateException e) {
            // What is not possible is left out, and nothing happens without the process.
        }
    }

    private static void numbersOfSteps() {
        PageMarriages m = Scenes.four();
        int other = 0;
        for (int seed = 0; seed < 40; seed++) {
            Tally.is(due(Scenes.four(), seed, 1), m.simulate(seed, 1));
            Tally.is(due(Scenes.four(), seed, 2), m.simulate(seed, 2));
            Tally.is(due(Scenes.four(), seed, 98), m.simulate(seed, 98));
            Tally.is(due(Scenes.four(), seed, 99), m.simulate(seed, 99));
            other += m.simulate(seed, 98) == m.simulate(seed, 99) ? 0 : 1;
        }
        Tally.is("the last step counts", 1, other > 0 ? 1 : 0);
    }

    private static void anySeed() {
        long[] seeds = {0, 1, -1, Long.MIN_VALUE, Long.MAX_VALUE, Long.MIN_VALUE + 1,
            Integer.MAX_VALUE, Integer.MIN_VALUE, 1L << 32, 1L << 33, -(1L << 33), 1L << 62};
        Unchanged.Scene[] scenes = {Scenes::usual, Scenes::four, Scenes::crowded,
            Scenes::crosswise, PageMarriages::new};
        for (Unchanged.Scene scene : scenes) {
            PageMarriages m = scene.make();
            for (long seed : seeds) {
                for (int steps : new int[] {1, 9, 50, 99}) {
                    Tally.is("simulate(" + seed + ", " + steps + ")",
                        due(scene.make(), seed, steps), m.simulate(seed, steps));
                }
            }
        }
    }

    /** Each r, up to the largest, is reached from its seed; the page and the group tell it. */
    private static void overflow() {
        PageMarriages m = Look.story("Mew00001w00401w00801w01201f0f0f0");
        int[] last = {Integer.MAX_VALUE, 0x7fffffff - 64, 0x40000000 + 4, 0x3fffffff, 0x7ffffff4};
        for (int r : last) {
            Tally.is("r = " + r, 1001, step(m, r));
        }
        Tally.is("a negative x, not shifted as a negative number", 1001,
            m.simulate(seedFor(Integer.MAX_VALUE), 1));
        PageMarriages bare = new PageMarriages();
        for (int seed = 1; seed <= 100; seed++) {
            long wide = 0x123456789abcdefL * seed;
            Tally.is(due(new PageMarriages(), wide, 99), bare.simulate(wide, 99));
            Tally.is(due(new PageMarriages(), -wide, 99), bare.simulate(-wide, 99));
        }
    }

    private static void processes() {
        PageMarriages four = Scenes.four();
        PageMarriages lone = Scenes.lone();
        PageMarriages two = Look.story("Mf0f0f0w00001x1f0x0x3f1x1");
        Tally.is("the processes 0 and 2", 5, two.about(0));
        for (int p = 0; p < 4; p++) {
            Tally.is("each writes to what all share", 1000, step(four, 16 * p + 4));
            Tally.is("and so beyond 64", 1000, step(four, 1024 + 16 * p + 4));
            Tally.is("the only one's frame is its own", 0, step(lone, 64 + 16 * p + 4));
        }
        PageMarriages usual = Scenes.usual();
        Tally.is("the process 0", 1000, step(usual, 2 * 64 + 4));
        Tally.is("the process 1", 1001, step(usual, 2 * 64 + 16 + 4));
        Tally.is("no process 2", 0, step(usual, 2 * 64 + 32 + 4));
        Tally.is("no process 3", 0, step(usual, 2 * 64 + 48 + 4));
        PageMarriages zeros = filledWith(0, 32);
        Tally.is("pressure by the process 0", 1, step(zeros, 3));
        Tally.is("pressure by the process 1", 1, step(zeros, 16 + 3));
        Tally.is("nothing without a process", 0, step(zeros, 32 + 3));
        Tally.is("nothing without a process", 0, step(zeros, 48 + 3));
    }

    private static void forks() {
        PageMarriages m = Look.story("Mw00001w01501f0x0");
        Tally.is("the process 1, behind the fork", 1000, steps(m, 16, 16 + 4));
        Tally.is("the new process 0", 1000, steps(m, 16, 4));
        Tally.is("no process 2", 0, steps(m, 16, 32 + 4));
        Tally.is("no process 0 that forks", 0, steps(m, 0, 16 + 4));
        PageMarriages four = Scenes.four();
        Tally.is("no fifth one", 1000, steps(four, 48, 48 + 4));
    }

    private static void exits() {
        PageMarriages m = Look.story("Mw00001f0");
        Tally.is("shared no more", 0, steps(m, 16 + 1, 4));
        Tally.is("shared no more", 0, steps(m, 1, 16 + 4));
        Tally.is("it has ended", 0, steps(m, 1, 4));
        Tally.is("the process 2 cannot end", 1000, steps(m, 32 + 1, 4));
        Tally.is("the only one cannot end, and marries", 4000,
            steps(Look.story("Mw00101w00001w00201w00301"), 1, 2));
    }

    private static void marries() {
        PageMarriages m = Scenes.crosswise();
        for (int g = 0; g < 4; g++) {
            Tally.is("the group " + g, 4000, step(m, 64 * g + 2));
            Tally.is("beyond the last group", 4000, step(m, 64 * (g + 4) + 2));
            Tally.is("the group 3 has no frames", g == 3 ? 0 : 4000, step(m, 64 * g + 16 + 2));
        }
        Tally.is("in place", 0, step(Scenes.full(), 2));
    }

    /** The first frames of the processes 0 and 1 are used, in big groups of this value. */
    private static PageMarriages filledWith(int value, int frames) {
        PageMarriages m = Look.story("Mf0e");
        for (int i = 0; i < frames; i++) {
            m.write(i / 16, i % 16, value);
        }
        return m;
    }

    private static void presses() {
        PageMarriages none = filledWith(0, 32);
        Tally.is("press(1), and none is free", 1, step(none, 3));
        Tally.is("press(4) takes one group", 1, step(none, 3 * 64 + 3));
        Tally.is("press(5) takes two", 2, step(none, 4 * 64 + 3));
        Tally.is("press(8) takes two", 2, step(none, 7 * 64 + 3));
        Tally.is("press(1) again", 1, step(none, 8 * 64 + 3));
        PageMarriages four = filledWith(0, 28);
        Tally.is("press(4), and four are free", 0, step(four, 3 * 64 + 3));
        Tally.is("press(5)", 1, step(four, 4 * 64 + 3));
        Tally.is("press(8)", 1, step(four, 7 * 64 + 3));
        PageMarriages seven = filledWith(0, 28);
        seven.press(7);
        Tally.is("one group was torn for these", 1, seven.about(8));
        Tally.is("press(7), and seven are free", 0, step(seven, 6 * 64 + 3));
        Tally.is("press(8) takes the last page of the torn group", 0, step(seven, 7 * 64 + 3));
        for (int high = 0; high < 1 << 21; high += 99_991) {
            int r = 1024 * high + 3;
            Tally.is("press(4) for r = " + r, 0, step(four, r + 3 * 64));
            Tally.is("press(5) for r = " + r, 1, step(four, r + 4 * 64));
            Tally.is("press(8) for r = " + r, 1, step(four, r + 7 * 64));
            Tally.is("press(1) for r = " + r, 0, step(four, r + 8 * 64));
        }
    }

    private static void writes() {
        PageMarriages m = Scenes.full();
        m.exit(1);
        m.fork(0);
        for (int kind = 4; kind < 8; kind++) {
            for (int v = 0; v < 16; v++) {
                Tally.is("the page " + v, 1000, step(m, 64 * v + kind));
                Tally.is("beyond the last page", 1000, step(m, 64 * (v + 16) + 16 + kind));
            }
        }
        PageMarriages big = Look.story("Mew00001w01201f0");
        for (int v = 0; v < 16; v++) {
            Tally.is("the page " + v, v < 4 || v > 11 ? 1001 : 0, step(big, 64 * v + 5));
        }
        writtenValues();
    }

    /** Only the value 0 lets the pressure of the second step tear the group. */
    private static void writtenValues() {
        int press32 = 7 * 64 + 3;
        int[] values = {0, 1, 50, 99, 100, 101, 199, 200, 1000, 2097099, 2097100, 2097151};
        PageMarriages m = filledWith(1, 32);
        for (int value : values) {
            for (int low : new int[] {4, 7, 15 * 64 + 4, 15 * 64 + 16 + 7}) {
                Tally.is("the value " + value + " % 100", value % 100 == 0 ? 1 : 0,
                    steps(m, 1024 * value + low, press32));
            }
        }
    }

    private static void leftOut() {
        PageMarriages none = Scenes.crowded();
        for (int v = 0; v < 16; v++) {
            for (int p = 0; p < 4; p++) {
                Tally.is("no frame is free", 0, step(none, 64 * v + 16 * p + 6));
            }
        }
        for (int p = 0; p < 4; p++) {
            Tally.is("a fork of four", 0, step(Scenes.four(), 16 * p));
            Tally.is("the only one ends", 0, step(Scenes.lone(), 16 * p + 1));
            Tally.is("no such group can marry", 0, step(Scenes.crowded(), 16 * p + 2));
        }
        Tally.is("steps behind those that are left out count", due(Scenes.four(), 5, 99),
            Scenes.four().simulate(5, 99));
    }

    private static void onlyThoseOfTheSteps() {
        PageMarriages m = Look.story("Mew00001w00401f0w10001w10401");
        Tally.is(2, m.about(6));
        Tally.is(2, m.about(8));
        Tally.is("no copy and no tear", 0, step(m, 4));
        Tally.is("one copy", 1000, step(m, 64 + 16 + 4));
        Tally.is("one copy and one tear", 1001, step(m, 64 + 4));
        PageMarriages crosswise = Scenes.crosswise();
        crosswise.marry(0, 0);
        Tally.is(4, crosswise.about(6));
        Tally.is("four copies", 4000, step(crosswise, 64 + 2));
        Tally.is("the same again, as it was on a copy", 4000, step(crosswise, 64 + 2));
    }
}
