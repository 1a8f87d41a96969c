/** Promise 23 at its edges. */
final class ScriptEdgeTests {
    private static final int NONE = PageMarriages.NONE;

    private ScriptEdgeTests() {
    }

    static void run(Edges.Book book) {
        Edges e = book.promise(23);
        e.holds("Throws IllegalArgumentException if n is out of range, or if script is negative or"
            + " has more than 5 * n digits", ScriptEdgeTests::noScript);
        e.holds("n: number of commands, 1 to 3", ScriptEdgeTests::numbersOfCommands);
        e.holds("script: the commands, a number of at most 5 * n digits (0 or more)",
            ScriptEdgeTests::firstAndLastScript);
        e.holds("Returns the index, from 0, of the first command that fails; NONE if all"
            + " succeed.", ScriptEdgeTests::indexes);
        e.holds("the first command is the highest group of the number (with zeros before it, if"
            + " it has fewer digits)", ScriptEdgeTests::highestGroupFirst);
        e.holds("1 p v v x: write(p, vv, x).", ScriptEdgeTests::writes);
        e.holds("2 p 0 0 0: fork(p).", ScriptEdgeTests::forks);
        e.holds("3 p 0 0 0: exit(p).", ScriptEdgeTests::exits);
        e.holds("4 p g 0 0: marry(p, g).", ScriptEdgeTests::marriesAndTears);
        e.holds("5 p g 0 0: tear(p, g).", ScriptEdgeTests::marriesAndTears);
        e.holds("6 0 0 x y: press(xy).", ScriptEdgeTests::presses);
        e.holds("7 p v v x: succeeds if the page vv of the process p has a frame with the value"
            + " x.", ScriptEdgeTests::valuesOfPages);
        e.holds("8 p g 0 b: succeeds if the group g of the process p is big (b is 1), or not (b"
            + " is 0).", ScriptEdgeTests::bigGroups);
        e.holds("9 0 0 x y: succeeds if at least xy frames are free.",
            ScriptEdgeTests::freeFrames);
        e.holds("The commands 1 to 6 fail if the method would throw an exception; commands with"
            + " processes, pages or groups that do not exist fail, and so does any other group of"
            + " digits (also one with another digit where a 0 is written).",
            ScriptEdgeTests::everyGroupOfDigits);
        e.holds("Runs a script on a copy of the state.", ScriptEdgeTests::onACopy);
    }

    private static void noScript() {
        Unchanged.illegalArgument(Scenes::usual, m -> m.runScript(0, 0), m -> m.runScript(4, 0),
            m -> m.runScript(-1, 90000), m -> m.runScript(Integer.MIN_VALUE, 0),
            m -> m.runScript(Integer.MAX_VALUE, 0), m -> m.runScript(1, -1),
            m -> m.runScript(3, -1), m -> m.runScript(3, Long.MIN_VALUE),
            m -> m.runScript(1, 100_000L), m -> m.runScript(2, 10_000_000_000L),
            m -> m.runScript(3, 1_000_000_000_000_000L), m -> m.runScript(3, Long.MAX_VALUE),
            m -> m.runScript(1, 1L << 32), m -> m.runScript(0, -1),
            m -> m.runScript(4, 1_000_000_000_000_000L));
    }

    private static void numbersOfCommands() {
        PageMarriages m = new PageMarriages();
        Tally.is(NONE, m.runScript(1, 90000));
        Tally.is(NONE, m.runScript(2, 9000090000L));
        Tally.is(NONE, m.runScript(3, 900009000090000L));
        Tally.illegalArgument(() -> m.runScript(0, 0));
        Tally.illegalArgument(() -> m.runScript(4, 900009000090000L));
    }

    private static void firstAndLastScript() {
        PageMarriages m = new PageMarriages();
        for (int n = 1; n <= 3; n++) {
            Tally.is("the number 0", 0, m.runScript(n, 0));
        }
        Tally.is(0, m.runScript(1, 99_999L));
        Tally.is(0, m.runScript(2, 9_999_999_999L));
        Tally.is(0, m.runScript(3, 999_999_999_999_999L));
        Tally.illegalArgument(() -> m.runScript(1, 100_000L));
        Tally.illegalArgument(() -> m.runScript(2, 10_000_000_000L));
        Tally.illegalArgument(() -> m.runScript(3, 1_000_000_000_000_000L));
        Tally.illegalArgument(() -> m.runScript(1, -1));
        Tally.is("five digits are fewer than ten", 0, m.runScript(2, 99_999L));
    }

    private static void indexes() {
        PageMarriages m = new PageMarriages();
        Tally.is(NONE, m.runScript(1, 90032));
        Tally.is(0, m.runScript(1, 90033));
        Tally.is(1, m.runScript(2, 9003290033L));
        Tally.is(0, m.runScript(2, 9003390032L));
        Tally.is("the first of three that fail", 0, m.runScript(3, 900339003390033L));
        Tally.is("the first of two", 1, m.runScript(3, 900329003390033L));
        Tally.is(2, m.runScript(3, 900329003290033L));
        Tally.is(NONE, m.runScript(3, 900329003290032L));
    }

    private static void highestGroupFirst() {
        PageMarriages m = new PageMarriages();
        Tally.is("write, then look", NONE, m.runScript(2, 1000770007L));
        Tally.is("look, then write", 0, m.runScript(2, 7000710007L));
        Tally.is("the group 00000 comes first", 0, m.runScript(3, 1000770007L));
        Tally.is("the group 00009 comes first", 0, m.runScript(2, 990000L));
        Tally.is("the group 00000 is the second", 1, m.runScript(2, 9000000000L));
        Tally.is("the group 00000 is the last", 2, m.runScript(3, 900009000000000L));
    }

    private static void writes() {
        PageMarriages m = new PageMarriages();
        Tally.is("the page 15 and the value 9", NONE, m.runScript(2, 1015970159L));
        Tally.is("the page 0 and the value 0", NONE, m.runScript(2, 1000070000L));
        Tally.is("the page 16", 0, m.runScript(1, 10160));
        Tally.is("the page 99", 0, m.runScript(1, 10990));
        Tally.is("the process 1", 0, m.runScript(1, 11000));
        Tally.is("the process 4", 0, Scenes.four().runScript(1, 14000));
        Tally.is("the process 3", NONE, Scenes.four().runScript(2, 1300973009L));
        PageMarriages none = Scenes.crowded();
        Tally.is("no frame is free", 0, none.runScript(1, 11151));
        Tally.is("no frame is free", 0, none.runScript(1, 12041));
        Tally.is("none is needed", NONE, none.runScript(1, 12001));
        Tally.is("one is free", NONE, Scenes.oneFree().runScript(1, 11151));
    }

    private static void forks() {
        PageMarriages m = new PageMarriages();
        Tally.is("up to four processes", NONE, m.runScript(3, 200002100022000L));
        PageMarriages two = Look.story("Mf0");
        Tally.is("no fifth one", 2, two.runScript(3, 200002000020000L));
        PageMarriages four = Scenes.four();
        Tally.is(0, four.runScript(1, 23000));
        Tally.is("one ends ahead of it", NONE, four.runScript(2, 3100023000L));
        Tally.is("no such process", 0, four.runScript(1, 24000));
        Tally.is("no such process", 0, m.runScript(1, 21000));
        for (int other : new int[] {20001, 20010, 20100, 20009, 20090, 20900}) {
            Tally.is("another digit for a 0", 0, m.runScript(1, other));
        }
    }

    private static void exits() {
        PageMarriages m = Scenes.four();
        Tally.is("three of four", NONE, m.runScript(3, 300003300031000L));
        PageMarriages three = Look.story("Mf0f0");
        Tally.is("the only one stays", 2, three.runScript(3, 300003100032000L));
        Tally.is("it is gone already", 1, three.runScript(2, 3000030000L));
        Tally.is("no such process", 0, three.runScript(1, 33000));
        Tally.is("no such process", 0, m.runScript(1, 34000));
        Tally.is("the only one", 0, new PageMarriages().runScript(1, 30000));
        for (int other : new int[] {30001, 30010, 30100, 30009, 30090, 30900}) {
            Tally.is("another digit for a 0", 0, three.runScript(1, other));
        }
    }

    private static void marriesAndTears() {
        PageMarriages m = Scenes.full();
        for (int i = 0; i < 8; i++) {
            long group = 1000 * (i / 4) + 100 * (i % 4);
            Tally.is(NONE, m.runScript(1, 40000 + group));
            Tally.is("married already", 1, m.runScript(2, (40000 + group) * 100001));
            Tally.is("not big", 0, m.runScript(1, 50000 + group));
            Tally.is(NONE, m.runScript(2, (40000 + group) * 100000 + 50000 + group));
        }
        for (int other : new int[] {40001, 40010, 40009, 40090, 40400, 42000, 44000, 49900}) {
            Tally.is(0, m.runScript(1, other));
        }
        PageMarriages big = Look.story("Mew00001w01201");
        Tally.is(NONE, big.runScript(1, 50000));
        Tally.is(NONE, big.runScript(1, 50300));
        for (int other : new int[] {50001, 50010, 50009, 50090, 50400, 51000, 54000, 59900}) {
            Tally.is(0, big.runScript(1, other));
        }
    }

    private static void presses() {
        PageMarriages m = Look.story("Mw00000");
        Tally.is("n is 0", 0, m.runScript(1, 60000));
        Tally.is("n is 1", NONE, m.runScript(1, 60001));
        Tally.is("n is 32", NONE, m.runScript(2, 6003290032L));
        Tally.is("n is 31, and 31 are free", 1, m.runScript(2, 6003190032L));
        Tally.is("n is 33", 0, m.runScript(1, 60033));
        Tally.is("n is 99", 0, m.runScript(1, 60099));
        for (int other : new int[] {60101, 61001, 60901, 69001, 61101}) {
            Tally.is("another digit for a 0", 0, m.runScript(1, other));
        }
        Tally.is("fewer are free then", NONE, Scenes.full().runScript(1, 60032));
    }

    private static void valuesOfPages() {
        PageMarriages m = Look.story("Mw00000w00109w00210w00319w00490w01505");
        Tally.is("the value 0", NONE, m.runScript(1, 70000));
        Tally.is("the value 9", NONE, m.runScript(1, 70019));
        Tally.is("the value 10", 0, m.runScript(1, 70020));
        Tally.is("the value 10", 0, m.runScript(1, 70021));
        Tally.is("the value 19", 0, m.runScript(1, 70039));
        Tally.is("the value 90", 0, m.runScript(1, 70049));
        Tally.is("the last page", NONE, m.runScript(1, 70155));
        Tally.is("another value", 0, m.runScript(1, 70154));
        Tally.is("no frame", 0, m.runScript(1, 70050));
        Tally.is("the page 16", 0, m.runScript(1, 70160));
        Tally.is("the process 1", 0, m.runScript(1, 71000));
        Tally.is("the process 4", 0, m.runScript(1, 74000));
    }

    private static void bigGroups() {
        PageMarriages m = Look.story("Mew00001w01201");
        int[] succeeding = {80001, 80100, 80200, 80301};
        int[] failing = {80000, 80101, 80201, 80300, 80002, 80009, 80102, 80011, 80110, 80400,
            80401, 80900, 81000, 81001, 84000};
        for (int script : succeeding) {
            Tally.is("script " + script, NONE, m.runScript(1, script));
        }
        for (int script : failing) {
            Tally.is("script " + script, 0, m.runScript(1, script));
        }
    }

    private static void freeFrames() {
        PageMarriages m = new PageMarriages();
        Tally.is("all are free", NONE, m.runScript(1, 90032));
        Tally.is(0, m.runScript(1, 90033));
        Tally.is(0, m.runScript(1, 90099));
        Tally.is("none is free", NONE, Scenes.full().runScript(1, 90000));
        Tally.is("none is free", 0, Scenes.full().runScript(1, 90001));
        Tally.is("one is free", NONE, Scenes.oneFree().runScript(1, 90001));
        Tally.is("one is free", 0, Scenes.oneFree().runScript(1, 90002));
        for (int other : new int[] {90100, 91000, 90900, 99000, 90132}) {
            Tally.is("another digit for a 0", 0, m.runScript(1, other));
        }
    }

    /** Whether these five digits succeed, by what the other methods tell. */
    private static boolean succeeds(PageMarriages m, int script) {
        String d = String.format("%05d", script);
        int p = d.charAt(1) - '0';
        int g = d.charAt(2) - '0';
        int v = Integer.parseInt(d.substring(2, 4));
        int xy = Integer.parseInt(d.substring(3));
        int processes = m.about(0);
        boolean has = p < 4 && (processes >> p & 1) == 1;
        switch (d.charAt(0)) {
            case '1':
                return has && v < 16 && m.wouldDo(p, v) != NONE;
            case '2':
                return has && d.endsWith("000") && processes != 15;
            case '3':
                return has && d.endsWith("000") && Integer.bitCount(processes) > 1;
            case '4':
                return has && g < 4 && d.endsWith("00") && m.whyNot(p, g) == 0;
            case '5':
                return has && g < 4 && d.endsWith("00") && m.group(p, g, 1) == 1;
            case '6':
                return d.startsWith("600") && xy >= 1 && xy <= 32;
            case '7':
                return has && v < 16 && m.page(p, v, 1) == d.charAt(4) - '0';
            case '8':
                return has && g < 4 && (d.endsWith("00") && m.group(p, g, 1) == 0
                    || d.endsWith("01") && m.group(p, g, 1) == 1);
            case '9':
                return d.startsWith("900") && m.about(1) >= xy;
            default:
                return false;
        }
    }

    private static void everyGroupOfDigits() {
        Unchanged.Scene[] scenes = {PageMarriages::new, Scenes::usual, Scenes::four,
            Scenes::crowded, Scenes::crosswise};
        for (Unchanged.Scene scene : scenes) {
            PageMarriages m = scene.make();
            for (int script = 0; script < 100_000; script++) {
                if (script % 100 == 0) {
                    m = scene.make();
                }
                int due = succeeds(m, script) ? NONE : 0;
                Tally.is("script " + script, due, m.runScript(1, script));
            }
        }
    }

    private static void onACopy() {
        Unchanged.by(Scenes::usual, m -> m.runScript(3, 100092000030000L),
            m -> m.runScript(3, 510006003230001L), m -> m.runScript(3, 0),
            m -> m.runScript(2, 1016050300L));
        Unchanged.by(Scenes::crosswise, m -> m.runScript(3, 400004010040200L),
            m -> m.runScript(3, 400005000060032L));
    }
}
