/** Promises 23 and 24: runScript, simulate. */
final class ScriptTests {
    private static final int NONE = PageMarriages.NONE;

    private ScriptTests() {
    }

    static void run(Tally t) {
        t.test("23 runScript: each command", ScriptTests::eachCommand);
        t.test("23 runScript: commands that fail", ScriptTests::failing);
        t.test("23 runScript: other groups of digits", ScriptTests::otherDigits);
        t.test("23 runScript: one behind the other", ScriptTests::sequences);
        t.test("23 runScript changes nothing", ScriptTests::changesNothing);
        t.test("23 runScript refuses", ScriptTests::scriptRefuses);
        t.test("24 simulate counts copies and tears", ScriptTests::simulates);
        t.test("24 simulate takes each seed", ScriptTests::seeds);
        t.test("24 simulate refuses", ScriptTests::simulateRefuses);
    }

    /** Process 0: group 0 in place and small, the page 4 with the value 0; process 1 has the group 3 big. */
    private static PageMarriages sample() {
        PageMarriages m = Look.story("Mw00003w00102w00201w00309w00400f0ew11207");
        m.setEager(false);
        return m;
    }

    private static void eachCommand() {
        PageMarriages m = sample();
        int[] succeeding = {10159, 10000, 11120, 20000, 21000, 30000, 31000, 51300, 60001, 60032,
            70003, 70012, 70039, 70040, 71127, 71130, 81301, 80300, 81000, 90000, 90023};
        for (int script : succeeding) {
            Tally.is("script " + script, NONE, m.runScript(1, script));
        }
        m.exit(1);
        Tally.is(NONE, m.runScript(1, 40000));
    }

    private static void failing() {
        PageMarriages m = sample();
        int[] failing = {10160, 10990, 12000, 14000, 19000, 22000, 24000, 29000, 32000, 39000,
            40000, 40100, 41300, 42000, 40400, 40900, 49000, 50000, 50300, 52000, 51400, 51900,
            59000, 60000, 60033, 60099, 70002, 70041, 70050, 72003, 70160, 70990, 74000, 80301,
            81300, 82000, 81401, 81400, 84000, 81302, 81309, 80302, 80309, 90025, 90099};
        for (int script : failing) {
            Tally.is("script " + script, 0, m.runScript(1, script));
        }
        PageMarriages lone = new PageMarriages();
        Tally.is("the only process", 0, lone.runScript(1, 30000));
        lone.fork(0);
        lone.fork(0);
        lone.fork(0);
        Tally.is("four processes", 0, lone.runScript(1, 23000));
    }

    private static void otherDigits() {
        PageMarriages m = sample();
        PageMarriages lone = Look.story("Mf0x1w00001w00101w00201w00301");
        int[] other = {0, 1, 99, 1000, 9999, 20001, 20010, 20100, 30001, 30010, 30100, 51301,
            51310, 60101, 61001, 60901, 69032, 81310, 81311, 80310, 90100, 91000, 90900, 99000};
        for (int script : other) {
            Tally.is("script " + script, 0, m.runScript(1, script));
        }
        Tally.is(NONE, lone.runScript(1, 40000));
        Tally.is(0, lone.runScript(1, 40001));
        Tally.is(0, lone.runScript(1, 40010));
    }

    private static void sequences() {
        PageMarriages m = new PageMarriages();
        Tally.is("the highest group comes first", NONE, m.runScript(2, 1000570005L));
        Tally.is(0, m.runScript(2, 7000510005L));
        Tally.is(1, m.runScript(2, 1000570006L));
        Tally.is("zeros before it", 0, m.runScript(3, 1000570005L));
        Tally.is(NONE, m.runScript(3, 200003000071005L - 1005L - 70000L + 90032L));
        Tally.is(2, m.runScript(3, 200003000030000L));
        Tally.is(2, m.runScript(3, 100001001090031L));
        Tally.is(NONE, m.runScript(3, 100001001090030L));
        Tally.is("pressure takes the zero", 2, m.runScript(3, 100006003270000L));
        Tally.is(NONE, m.runScript(3, 100016003270001L));
        Tally.is("the first that fails", 0, m.runScript(3, 0L));
        Tally.is(1, m.runScript(3, 100000000000000L));
        Tally.is(2, m.runScript(3, 100001000000000L));
        Tally.is(0, m.runScript(3, 99999L));
    }

    private static void changesNothing() {
        PageMarriages m = sample();
        Look.unchangedBy(m, () -> {
            m.runScript(3, 100502000060032L);
            m.runScript(3, 310004000060032L);
            m.runScript(2, 5130011120L);
        });
        Tally.is(0, m.undo());
    }

    private static void scriptRefuses() {
        PageMarriages m = new PageMarriages();
        int[] wrong = {0, -1, 4, Integer.MIN_VALUE, Integer.MAX_VALUE};
        for (int n : wrong) {
            Tally.illegalArgument(() -> m.runScript(n, 10000));
            Tally.illegalArgument(() -> m.runScript(n, 0));
        }
        long[][] scripts = {{1, -1}, {2, -10000}, {3, Long.MIN_VALUE}, {1, 100000},
            {2, 10000000000L}, {3, 1000000000000000L}, {1, Long.MAX_VALUE}, {3, Long.MAX_VALUE},
            {1, 1L << 32}};
        for (long[] script : scripts) {
            Tally.illegalArgument(() -> m.runScript((int) script[0], script[1]));
        }
        Tally.is(0, m.runScript(1, 99999));
        Tally.is(0, m.runScript(2, 9999999999L));
        Tally.is(0, m.runScript(3, 999999999999999L));
    }

    private static void simulates() {
        for (int seed = 0; seed < 200; seed++) {
            PageMarriages m = sample();
            PageMarriages copy = sample();
            int copies = copy.about(6);
            int tears = copy.about(8);
            long x = seed;
            for (int step = 1; step <= 99; step++) {
                x = x * 6364136223846793005L + 1442695040888963407L;
                step(copy, (int) (x >>> 33));
                int due = 1000 * (copy.about(6) - copies) + copy.about(8) - tears;
                if (step % 16 == 1 || step > 97) {
                    Tally.is("simulate(" + seed + ", " + step + ")", due, m.simulate(seed, step));
                }
            }
            Look.same(Look.at(sample()), m);
        }
    }

    /** One step of a simulation by the calls that it names. */
    private static void step(PageMarriages m, int r) {
        int p = r / 16 % 4;
        if ((m.about(0) >> p & 1) == 0) {
            return;
        }
        try {
            switch (r % 8) {
                case 0 -> m.fork(p);
                case 1 -> m.exit(p);
                case 2 -> m.marry(p, r / 64 % 4);
                case 3 -> m.press(1 + r / 64 % 8);
                default -> m.write(p, r / 64 % 16, r / 1024 % 100);
            }
        } catch (IllegalStateException e) {
            // What is not possible is left out.
        }
    }

    private static void seeds() {
        PageMarriages m = new PageMarriages();
        Tally.is(0, m.simulate(Long.MIN_VALUE, 1));
        Tally.is(0, m.simulate(Long.MAX_VALUE, 1));
        PageMarriages due = Look.story("Mew00000w00401f0f0f0w00101w10501");
        for (long seed : new long[] {-1, Long.MIN_VALUE, Long.MAX_VALUE, -6364136223846793005L}) {
            PageMarriages copy = Look.story("Mew00000w00401f0f0f0w00101w10501");
            int copies = copy.about(6);
            int tears = copy.about(8);
            long x = seed;
            for (int step = 0; step < 99; step++) {
                x = x * 6364136223846793005L + 1442695040888963407L;
                step(copy, (int) (x >>> 33));
            }
            Tally.is("seed " + seed, 1000 * (copy.about(6) - copies) + copy.about(8) - tears,
                due.simulate(seed, 99));
        }
    }

    private static void simulateRefuses() {
        PageMarriages m = new PageMarriages();
        int[] wrong = {0, -1, 100, Integer.MIN_VALUE, Integer.MAX_VALUE};
        for (int steps : wrong) {
            Tally.illegalArgument(() -> m.simulate(1, steps));
        }
    }
}
