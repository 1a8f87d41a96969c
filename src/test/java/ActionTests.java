/** Promises 10 to 17: write, fork, exit, marry, tear, press, setEager, undo. */
final class ActionTests {
    private ActionTests() {
    }

    static void run(Tally t) {
        t.test("10 write: faults take single frames", ActionTests::writeFaults);
        t.test("10 write: single frames avoid free runs", ActionTests::writeAvoidsRuns);
        t.test("10 write: eager faults", ActionTests::writeEager);
        t.test("10 write: a big group begins with the values 0", ActionTests::writeEagerZeros);
        t.test("10 write: eager memory without a free run", ActionTests::writeEagerWithoutRun);
        t.test("10 write: copies and tears", ActionTests::writeCopies);
        t.test("10 write refuses", ActionTests::writeRefuses);
        t.test("11 fork", ActionTests::forks);
        t.test("11 fork refuses", ActionTests::forkRefuses);
        t.test("12 exit", ActionTests::exits);
        t.test("12 exit refuses", ActionTests::exitRefuses);
        t.test("13 marry in place", ActionTests::marriesInPlace);
        t.test("13 marry elsewhere", ActionTests::marriesElsewhere);
        t.test("13 marry refuses", ActionTests::marryRefuses);
        t.test("14 tear", ActionTests::tears);
        t.test("14 tear refuses", ActionTests::tearRefuses);
        t.test("15 press takes pages in order", ActionTests::pressTakes);
        t.test("15 press spares the shared, the big and the filled", ActionTests::pressSpares);
        t.test("15 press tears the emptiest", ActionTests::pressTears);
        t.test("15 press refuses", ActionTests::pressRefuses);
        t.test("16 setEager", ActionTests::setsEager);
        t.test("17 undo takes back each action", ActionTests::undoes);
        t.test("17 undo remembers 14 states", ActionTests::undoLimit);
        t.test("17 undo is no action, and what throws is none", ActionTests::undoIsNone);
    }

    /** All 32 frames are used: the processes 0 and 1 have 16 pages each, of their own. */
    private static PageMarriages full() {
        PageMarriages m = Look.story("Mf0");
        for (int i = 0; i < 32; i++) {
            m.write(i / 16, i % 16, 1 + i);
        }
        return m;
    }

    private static void writeFaults() {
        PageMarriages m = new PageMarriages();
        Tally.is(1, m.write(0, 15, 99));
        Tally.is(0, m.page(0, 15, 0));
        Tally.is(99, m.page(0, 15, 1));
        Tally.is(1, m.write(0, 0, 0));
        Tally.is(1, m.page(0, 0, 0));
        Tally.is(0, m.write(0, 15, 5));
        Tally.is(5, m.page(0, 15, 1));
        Tally.is(0, m.page(0, 15, 0));
        Tally.is(2, m.about(7));
        Tally.is(0, m.about(3));
    }

    private static void writeAvoidsRuns() {
        PageMarriages m = Look.story("Mew00001w00401w00801f0x0");
        m.tear(1, 0);
        m.press(23);
        Tally.is("the frames 1 to 3 were lost", 23, m.about(1));
        m.write(1, 12, 1);
        Tally.is("the group has no frame, so the lowest free run", 12, m.page(1, 12, 0));
        m.setEager(false);
        m.write(1, 1, 1);
        Tally.is("the lowest free one in a run that is not free", 1, m.page(1, 1, 0));
        PageMarriages other = Look.story("Mw00000w00101w00201w00301w00401");
        other.press(28);
        Tally.is(-1, other.page(0, 0, 0));
        other.fork(0);
        other.write(1, 1, 5);
        Tally.is(0, other.page(1, 1, 0));
        other.write(1, 2, 5);
        Tally.is(5, other.page(1, 2, 0));
        PageMarriages third = Look.story("Mw00001w00101w00201w00301f0");
        third.write(1, 0, 1);
        Tally.is("all used runs are full, so the lowest free one", 4, third.page(1, 0, 0));
        third.exit(0);
        third.write(1, 8, 1);
        Tally.is("the frame 0 is in a run that is not free", 0, third.page(1, 8, 0));
    }

    private static void writeEager() {
        PageMarriages m = Look.story("Mw00005e");
        Tally.is("its group has a frame", 1, m.write(0, 3, 6));
        Tally.is(1, m.page(0, 3, 0));
        Tally.is(0, m.group(0, 0, 1));
        Tally.is(1, m.write(0, 6, 7));
        Tally.is(1, m.group(0, 1, 4));
        for (int v = 4; v < 8; v++) {
            Tally.is(v, m.page(0, v, 0));
            Tally.is(v == 6 ? 7 : 0, m.page(0, v, 1));
        }
        Tally.is(3, m.about(7));
        Tally.is(0, m.write(0, 7, 1));
        Tally.is(1, m.about(3));
        m.setEager(false);
        m.write(0, 8, 1);
        Tally.is(2, m.page(0, 8, 0));
        Tally.is(0, m.group(0, 2, 1));
    }

    private static void writeEagerZeros() {
        PageMarriages m = Look.story("Mf0w00009w00109w00209w00309x0e");
        Tally.is(8, m.about(2));
        Tally.is(1, m.write(1, 5, 3));
        Tally.is("the run of the process 0", 0, m.group(1, 1, 4));
        for (int v = 4; v < 8; v++) {
            Tally.is(v == 5 ? 3 : 0, m.page(1, v, 1));
        }
    }

    private static void writeEagerWithoutRun() {
        PageMarriages tight = full();
        int[][] zeros = {{0, 0}, {0, 4}, {1, 0}, {1, 1}, {1, 2}, {1, 3}};
        for (int[] at : zeros) {
            tight.write(at[0], at[1], 0);
        }
        tight.setEager(true);
        Tally.is(2, tight.press(2));
        Tally.is("no run is free", 0, tight.about(2));
        tight.undo();
        Tally.is(6, tight.press(6));
        Tally.is(1, tight.about(2));
        Tally.is("its group has frames", 1, tight.write(0, 0, 3));
        Tally.is("not in the free run", 0, tight.page(0, 0, 0));
        Tally.is(1, tight.write(1, 3, 3));
        Tally.is(1, tight.group(1, 0, 1));
        Tally.is(16, tight.page(1, 0, 0));
        PageMarriages few = full();
        for (int v = 0; v < 4; v++) {
            few.write(1, v, 0);
        }
        few.write(0, 4, 0);
        few.setEager(true);
        few.press(5);
        few.write(0, 4, 0);
        few.fork(0);
        few.write(2, 0, 1);
        Tally.is("the copy took a frame of the last free run", 16, few.page(2, 0, 0));
        Tally.is(1, few.write(1, 2, 3));
        Tally.is("a single frame, as no run is free", 17, few.page(1, 2, 0));
        Tally.is(0, few.group(1, 0, 1));
    }

    private static void writeCopies() {
        PageMarriages m = Look.story("Mew00011w00112f0");
        Tally.is(3, m.write(1, 1, 50));
        Tally.is(4, m.page(1, 1, 0));
        Tally.is(50, m.page(1, 1, 1));
        Tally.is(12, m.page(0, 1, 1));
        Tally.is(0, m.group(1, 0, 1));
        Tally.is(0, m.page(1, 0, 0));
        Tally.is(2, m.page(1, 2, 0));
        Tally.is(1, m.group(0, 0, 1));
        Tally.is(1, m.about(8));
        Tally.is("torn already", 2, m.write(1, 0, 51));
        Tally.is(5, m.page(1, 0, 0));
        Tally.is("alone in it, and big still", 0, m.write(0, 0, 13));
        Tally.is(1, m.group(0, 0, 1));
        Tally.is("a widow is torn", 3, m.write(0, 3, 14));
        Tally.is(6, m.page(0, 3, 0));
        Tally.is(3, m.page(1, 3, 0));
        Tally.is(2, m.about(8));
        Tally.is(3, m.about(6));
        Tally.is(0, m.write(1, 3, 15));
        Tally.is(3, m.page(1, 3, 0));
    }

    private static void writeRefuses() {
        PageMarriages m = Look.story("Mew00011f0x0");
        int[][] missing = {{-1, 0}, {0, 0}, {2, 0}, {4, 0}, {1, -1}, {1, 16}, {1, 100},
            {Integer.MAX_VALUE, 0}, {1, Integer.MIN_VALUE}};
        int[] wrong = {-1, 100, Integer.MIN_VALUE, Integer.MAX_VALUE};
        Look.unchangedBy(m, () -> {
            for (int[] at : missing) {
                Tally.outOfBounds(() -> m.write(at[0], at[1], 0));
                Tally.outOfBounds(() -> m.write(at[0], at[1], 100));
            }
            for (int value : wrong) {
                Tally.illegalArgument(() -> m.write(1, 0, value));
                Tally.illegalArgument(() -> m.write(1, 15, value));
            }
        });
        PageMarriages full = full();
        full.fork(0);
        Look.unchangedBy(full, () -> {
            Tally.illegalState(() -> full.write(0, 0, 9));
            Tally.illegalState(() -> full.write(2, 15, 9));
            Tally.illegalArgument(() -> full.write(0, 0, 100));
            Tally.outOfBounds(() -> full.write(3, 0, 9));
        });
        Tally.is("alone in its frame", 0, full.write(1, 15, 9));
        full.exit(2);
        Tally.is(0, full.write(0, 0, 9));
        PageMarriages big = full();
        big.marry(0, 0);
        big.fork(0);
        Look.unchangedBy(big, () -> Tally.illegalState(() -> big.write(2, 0, 9)));
        Tally.is("not torn either", 1, big.group(2, 0, 1));
        PageMarriages lacking = full();
        lacking.fork(0);
        lacking.exit(1);
        lacking.fork(2);
        for (int v = 0; v < 16; v++) {
            lacking.write(1, v, 1);
        }
        lacking.fork(0);
        Look.unchangedBy(lacking, () -> Tally.illegalState(() -> lacking.write(3, 0, 1)));
    }

    private static void forks() {
        PageMarriages m = Look.story("Mew00001w00401");
        m.write(0, 4, 3);
        m.setEager(false);
        m.write(0, 8, 4);
        Tally.is(1, m.fork(0));
        for (int v = 0; v < 16; v++) {
            for (int what = 0; what < 4; what++) {
                Tally.is(m.page(0, v, what), m.page(1, v, what));
            }
        }
        Tally.is(4, m.about(3));
        Tally.is(2, m.fork(1));
        Tally.is(3, m.page(2, 8, 2));
        m.exit(1);
        m.exit(0);
        Tally.is(0, m.fork(2));
        Tally.is(1, m.fork(0));
        Tally.is(3, m.fork(0));
        Tally.is(15, m.about(0));
        Tally.is(0, m.about(6));
    }

    private static void forkRefuses() {
        PageMarriages m = new PageMarriages();
        Tally.outOfBounds(() -> m.fork(-1));
        Tally.outOfBounds(() -> m.fork(1));
        Tally.outOfBounds(() -> m.fork(4));
        Tally.outOfBounds(() -> m.fork(32));
        Tally.outOfBounds(() -> m.fork(Integer.MIN_VALUE));
        m.fork(0);
        m.fork(0);
        m.fork(0);
        Look.unchangedBy(m, () -> {
            Tally.illegalState(() -> m.fork(0));
            Tally.illegalState(() -> m.fork(3));
            Tally.outOfBounds(() -> m.fork(4));
            Tally.outOfBounds(() -> m.fork(-1));
        });
        Tally.is(2, m.undo());
    }

    private static void exits() {
        PageMarriages m = Look.story("Mew00001f0w10002w10403");
        Tally.is("the frame of the copy and a whole run", 5, m.exit(1));
        Tally.is(28, m.about(1));
        Tally.is(1, m.about(0));
        Tally.is(1, m.about(3));
        m.fork(0);
        Tally.is("all is shared", 0, m.exit(0));
        Tally.is(2, m.about(0));
        Tally.is(1, m.page(1, 0, 1));
        m.fork(1);
        Tally.is("nothing of the process before is left", -1, m.page(0, 4, 0));
        Tally.is(0, m.group(0, 1, 1));
        m.write(0, 0, 5);
        Tally.is("the other three are shared still", 1, m.exit(1));
        Tally.is(28, m.about(1));
        for (int g = 0; g < 4; g++) {
            PageMarriages big = Look.story("Mef0");
            big.write(0, 4 * g, 1);
            Tally.is(4, big.exit(0));
            Tally.is(0, big.about(3));
        }
    }

    private static void exitRefuses() {
        PageMarriages m = new PageMarriages();
        Tally.illegalState(() -> m.exit(0));
        Tally.outOfBounds(() -> m.exit(1));
        Tally.outOfBounds(() -> m.exit(-1));
        Tally.outOfBounds(() -> m.exit(4));
        Tally.outOfBounds(() -> m.exit(32));
        m.fork(0);
        m.exit(0);
        Look.unchangedBy(m, () -> {
            Tally.illegalState(() -> m.exit(1));
            Tally.outOfBounds(() -> m.exit(0));
        });
        Tally.is(1, m.undo());
    }

    private static void marriesInPlace() {
        PageMarriages m = Look.story("Mw00001w00102w00203w00304");
        Tally.is(0, m.marry(0, 0));
        Tally.is(0, m.group(0, 0, 4));
        Tally.is(0, m.about(6));
        Tally.is(3, m.page(0, 2, 1));
        Tally.is(28, m.about(1));
        m.tear(0, 0);
        m.fork(0);
        m.exit(0);
        Tally.is(0, m.marry(1, 0));
        PageMarriages full = full();
        Tally.is("in place needs no free run", 0, full.marry(1, 3));
        Tally.is(7, full.group(1, 3, 4));
    }

    private static void marriesElsewhere() {
        PageMarriages m = Look.story("Mw00409w00001w00102w00203w00304");
        Tally.is("its frames are 1 to 4", 4, m.page(0, 3, 0));
        Tally.is(4, m.marry(0, 0));
        Tally.is("the run 1 was not free", 2, m.group(0, 0, 4));
        for (int v = 0; v < 4; v++) {
            Tally.is(8 + v, m.page(0, v, 0));
            Tally.is(1 + v, m.page(0, v, 1));
            Tally.is(-1, m.user(1 + v, 0));
        }
        Tally.is(4, m.about(6));
        Tally.is(27, m.about(1));
        Tally.is(0, m.about(8));
        PageMarriages turned = Look.story("Mw00101w00002w00203w00304");
        Tally.is("one run, but not in order", 4, turned.marry(0, 0));
        Tally.is(1, turned.group(0, 0, 4));
        Tally.is(2, turned.page(0, 0, 1));
        Tally.is(1, turned.page(0, 1, 1));
        PageMarriages shifted = Look.story("Mw00801w00001w00102w00203w00304");
        shifted.press(1);
        Tally.is(4, shifted.marry(0, 0));
        PageMarriages last = Look.story("Mw00001w00102w00303w00204");
        Tally.is("two are exchanged at the end", 4, last.marry(0, 0));
    }

    private static void marryRefuses() {
        PageMarriages m = Look.story("Mw00001w00101w00201w00301f0");
        int[][] missing = {{-1, 0}, {2, 0}, {4, 0}, {0, -1}, {0, 4}, {Integer.MAX_VALUE, 0}};
        Look.unchangedBy(m, () -> {
            for (int[] at : missing) {
                Tally.outOfBounds(() -> m.marry(at[0], at[1]));
            }
            Tally.illegalState(() -> m.marry(0, 0));
            Tally.illegalState(() -> m.marry(0, 1));
        });
        m.exit(1);
        m.marry(0, 0);
        Look.unchangedBy(m, () -> Tally.illegalState(() -> m.marry(0, 0)));
        PageMarriages full = Look.story("Mf0w00101w00001");
        Look.fill(full, 2, 32);
        Tally.is(0, full.about(1));
        Look.unchangedBy(full, () -> Tally.illegalState(() -> full.marry(0, 0)));
        Tally.is(0, full.marry(0, 1));
    }

    private static void tears() {
        PageMarriages m = Look.story("Mew00001w00401");
        Tally.is(1, m.tear(0, 1));
        Tally.is(0, m.tear(0, 0));
        Tally.is(2, m.about(8));
        Tally.is(0, m.about(3));
        Tally.is(5, m.page(0, 5, 0));
        Tally.is(24, m.about(1));
        m.undo();
        m.fork(0);
        Tally.is(0, m.tear(1, 0));
        Tally.is(1, m.group(0, 0, 1));
        Tally.is(0, m.group(1, 0, 1));
        Tally.is(0, m.about(6));
    }

    private static void tearRefuses() {
        PageMarriages m = Look.story("Mew00001f0x0");
        int[][] missing = {{-1, 0}, {0, 0}, {4, 0}, {1, -1}, {1, 4}, {Integer.MAX_VALUE, 0},
            {33, 0}};
        Look.unchangedBy(m, () -> {
            for (int[] at : missing) {
                Tally.outOfBounds(() -> m.tear(at[0], at[1]));
            }
            Tally.illegalState(() -> m.tear(1, 1));
        });
        m.tear(1, 0);
        Look.unchangedBy(m, () -> Tally.illegalState(() -> m.tear(1, 0)));
    }

    private static void pressTakes() {
        PageMarriages m = Look.story("Mw00900w00200w00500w00301f0w10901w10200w11500x0f1");
        m.write(0, 9, 0);
        m.write(0, 2, 0);
        Tally.is(25, m.about(1));
        Tally.is("enough are free", 25, m.press(25));
        Tally.is(0, m.about(9));
        Tally.is(26, m.press(26));
        Tally.is("first by processes, then by pages", -1, m.page(0, 2, 0));
        Tally.is(0, m.page(0, 9, 1));
        Tally.is(27, m.press(27));
        Tally.is(-1, m.page(0, 9, 0));
        Tally.is("the last one of the process 1", 28, m.press(32));
        Tally.is(-1, m.page(1, 2, 0));
        Tally.is("shared still", 0, m.page(1, 5, 1));
        Tally.is(3, m.about(9));
        Tally.is(0, m.about(8));
    }

    private static void pressSpares() {
        PageMarriages m = Look.story("Mw00000w00101f0ew10802w10903");
        Tally.is("a shared one, a filled one, a big group", 26, m.about(1));
        Tally.is(26, m.press(26));
        Tally.is(28, m.press(32));
        Tally.is(1, m.about(8));
        Tally.is(2, m.about(9));
        Tally.is(2, m.page(1, 8, 1));
        Tally.is(-1, m.page(1, 10, 0));
        Tally.is(0, m.page(0, 0, 1));
        PageMarriages shared = Look.story("Mew00001f0");
        Tally.is("a group with a shared frame is not torn", 28, shared.press(32));
        Tally.is(2, shared.about(3));
        shared.write(0, 1, 1);
        shared.write(0, 2, 1);
        shared.write(0, 3, 1);
        Tally.is("a widow with one shared frame", 25, shared.press(32));
        Tally.is(1, shared.about(3));
        PageMarriages filled = Look.story("Mew00001w00101w00201w00301");
        Tally.is("a group without zeros is not torn", 28, filled.press(32));
        Tally.is(1, filled.about(3));
    }

    private static void pressTears() {
        PageMarriages m = Look.story("Mew00001w00101w00401w00801w01201w01301f0x0f1x0");
        Tally.is(16, m.about(1));
        Tally.is("the first of those with three zeros", 17, m.press(17));
        Tally.is(0, m.group(1, 1, 1));
        Tally.is(1, m.group(1, 2, 1));
        Tally.is(-1, m.page(1, 5, 0));
        Tally.is(0, m.page(1, 6, 1));
        Tally.is("the small pages first", 19, m.press(19));
        Tally.is(1, m.about(8));
        Tally.is(20, m.press(20));
        Tally.is(2, m.about(8));
        Tally.is(0, m.group(1, 2, 1));
        Tally.is(23, m.press(23));
        Tally.is("then the first of those with two", 0, m.group(1, 0, 1));
        Tally.is(1, m.group(1, 3, 1));
        Tally.is(26, m.press(32));
        Tally.is(4, m.about(8));
        Tally.is(10, m.about(9));
        for (int v = 0; v < 4; v++) {
            PageMarriages lone = Look.story("Mef0f0f0");
            for (int i = 0; i < 4; i++) {
                lone.write(3, 12 + i, i == v ? 0 : 1);
            }
            Tally.is("one page with the value 0 is enough", 29, lone.press(32));
            Tally.is(-1, lone.page(3, 12 + v, 0));
        }
        PageMarriages two = Look.story("Mef0w11201w00401w00501");
        two.press(25);
        Tally.is("more zeros count more than the lower process", 0, two.group(1, 3, 1));
        Tally.is(1, two.group(0, 1, 1));
        PageMarriages equal = Look.story("Mef0w10001w01201");
        equal.press(25);
        Tally.is("the lower process", 0, equal.group(0, 3, 1));
        Tally.is(1, equal.group(1, 0, 1));
    }

    private static void pressRefuses() {
        PageMarriages m = Look.story("Mw00000");
        int[] wrong = {0, -1, 33, Integer.MIN_VALUE, Integer.MAX_VALUE};
        Look.unchangedBy(m, () -> {
            for (int n : wrong) {
                Tally.illegalArgument(() -> m.press(n));
            }
        });
        Tally.is(31, m.press(1));
        Tally.is(32, m.press(32));
    }

    private static void setsEager() {
        PageMarriages m = new PageMarriages();
        Tally.is(8, m.setEager(true));
        Tally.is(1, m.about(10));
        m.write(0, 0, 0);
        Tally.is(7, m.setEager(true));
        Tally.is(1, m.about(10));
        Tally.is(7, m.setEager(false));
        Tally.is(0, m.about(10));
        Tally.is(3, m.undo());
        Tally.is(1, m.about(10));
    }

    private static PageMarriages afterActions(int count) {
        Unchanged.Call[] actions = {m -> m.write(1, 0, 7), m -> m.fork(1), m -> m.exit(0),
            m -> m.marry(1, 0), m -> m.tear(1, 0), m -> m.press(28), m -> m.setEager(true),
            m -> m.write(1, 12, 5), m -> m.fork(1), m -> m.write(0, 13, 5), m -> m.press(1),
            m -> m.setEager(true)};
        PageMarriages m = Look.story("Mw00000w00101w00201w00301w00800f0x0");
        for (int i = 0; i < count; i++) {
            actions[i].on(m);
        }
        return m;
    }

    private static void undoes() {
        for (int left = 11; left >= 0; left--) {
            PageMarriages m = afterActions(12);
            for (int i = 11; i >= left; i--) {
                Tally.is(i, m.undo());
            }
            Look.same(Look.at(afterActions(left)), m);
        }
        PageMarriages m = afterActions(0);
        Tally.illegalState(() -> m.undo());
        Look.same(Look.at(afterActions(0)), m);
    }

    private static void undoLimit() {
        PageMarriages m = new PageMarriages();
        for (int round = 0; round < 3; round++) {
            int[] before = new int[20];
            for (int i = 0; i < 20; i++) {
                before[i] = m.page(0, i % 16, 1);
                m.write(0, i % 16, 20 * round + i);
            }
            for (int i = 13; i >= 0; i--) {
                Tally.is(i, m.undo());
                Tally.is(before[6 + i], m.page(0, (6 + i) % 16, 1));
            }
            Tally.illegalState(() -> m.undo());
            for (int i = 0; i <= round; i++) {
                m.setEager(i % 2 == 0);
            }
            for (int i = round; i >= 0; i--) {
                Tally.is(i, m.undo());
            }
        }
    }

    private static void undoIsNone() {
        PageMarriages m = new PageMarriages();
        m.append('M');
        m.setEager(true);
        m.setEager(true);
        m.write(0, 0, 1);
        Tally.illegalState(() -> m.exit(0));
        Tally.illegalState(() -> m.marry(0, 0));
        Tally.illegalState(() -> m.tear(0, 1));
        Tally.illegalArgument(() -> m.press(0));
        Tally.illegalArgument(() -> m.write(0, 0, 100));
        m.append('e');
        m.save(0);
        m.simulate(1, 99);
        m.runScript(1, 10001);
        m.mostFree();
        m.marriages();
        m.writable(0);
        Tally.is(2, m.undo());
        Tally.is(32, m.about(1));
        Tally.is(1, m.undo());
        Tally.is(1, m.about(10));
        Tally.is(0, m.undo());
        Tally.is(0, m.about(10));
        Tally.illegalState(() -> m.undo());
        Tally.is("undo keeps the text", 2, m.clearText());
        Tally.is("undo keeps the slots", 28, m.restore(0));
    }
}
