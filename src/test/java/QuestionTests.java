/** Promises 18 to 22: whyNot, wouldDo, marriages, mostFree, writable. */
final class QuestionTests {
    private QuestionTests() {
    }

    static void run(Tally t) {
        t.test("18 whyNot", QuestionTests::whyNots);
        t.test("18 whyNot tells the first reason", QuestionTests::firstReasons);
        t.test("18 whyNot refuses", QuestionTests::whyNotRefuses);
        t.test("19 wouldDo", QuestionTests::wouldDos);
        t.test("19 wouldDo when frames are rare", QuestionTests::wouldDoWithoutFrames);
        t.test("19 wouldDo refuses", QuestionTests::wouldDoRefuses);
        t.test("20 marriages", QuestionTests::marriages);
        t.test("20 marriages: those in place come first", QuestionTests::marriagesInPlaceFirst);
        t.test("21 mostFree", QuestionTests::mostFree);
        t.test("22 writable", QuestionTests::writables);
        t.test("22 writable refuses", QuestionTests::writableRefuses);
        t.test("18 to 22 change nothing", QuestionTests::changeNothing);
    }

    private static void whyNots() {
        PageMarriages m = Look.story("Mw00001w00101w00201");
        Tally.is("a page has no frame", 2, m.whyNot(0, 0));
        m.write(0, 3, 1);
        Tally.is("in place", 0, m.whyNot(0, 0));
        m.fork(0);
        Tally.is("shared", 3, m.whyNot(0, 0));
        m.write(1, 1, 1);
        Tally.is("shared but for one page", 3, m.whyNot(1, 0));
        m.exit(0);
        Tally.is("elsewhere", 0, m.whyNot(1, 0));
        m.marry(1, 0);
        Tally.is("big", 1, m.whyNot(1, 0));
        for (int shared = 0; shared < 4; shared++) {
            PageMarriages one = Look.story("Mw00001w00101w00201w00301f0");
            for (int v = 0; v < 4; v++) {
                if (v != shared) {
                    one.write(1, v, 1);
                }
            }
            Tally.is("one page is shared", 3, one.whyNot(0, 0));
            Tally.is("one page is shared", 3, one.whyNot(1, 0));
            one.write(0, shared, 1);
            Tally.is("none is shared", 0, one.whyNot(1, 0));
        }
        for (int lacking = 0; lacking < 4; lacking++) {
            PageMarriages one = new PageMarriages();
            for (int v = 8; v < 12; v++) {
                if (v != 8 + lacking) {
                    one.write(0, v, 1);
                }
            }
            Tally.is("one page has no frame", 2, one.whyNot(0, 2));
        }
        PageMarriages full = Look.story("Mf0w00101w00001");
        Look.fill(full, 2, 32);
        Tally.is("no free run", 4, full.whyNot(0, 0));
        Tally.is("in place", 0, full.whyNot(0, 1));
        full.exit(1);
        Tally.is("a free run", 0, full.whyNot(0, 0));
    }

    private static void firstReasons() {
        PageMarriages m = Look.story("Mew00001f0");
        Tally.is("big, though shared", 1, m.whyNot(1, 0));
        PageMarriages some = Look.story("Mw00001f0");
        Tally.is("lacking, though shared", 2, some.whyNot(0, 0));
        PageMarriages full = Look.story("Mf0w00101w00001");
        Look.fill(full, 2, 32);
        full.fork(0);
        Tally.is("shared, though there is no run", 3, full.whyNot(0, 0));
        full.write(1, 0, 0);
        full.press(1);
        Tally.is("lacking, though there is no run", 2, full.whyNot(1, 0));
    }

    private static void whyNotRefuses() {
        PageMarriages m = Look.story("Mf0x0");
        int[][] missing = {{-1, 0}, {0, 0}, {2, 0}, {4, 0}, {1, -1}, {1, 4},
            {Integer.MIN_VALUE, 0}, {1, Integer.MAX_VALUE}, {33, 0}};
        for (int[] at : missing) {
            Tally.outOfBounds(() -> m.whyNot(at[0], at[1]));
        }
        Tally.is(2, m.whyNot(1, 3));
    }

    private static void wouldDos() {
        PageMarriages m = Look.story("Mew00001f0x0");
        m.write(1, 4, 1);
        m.setEager(false);
        m.write(1, 8, 1);
        m.fork(1);
        Tally.is(3, m.wouldDo(0, 3));
        Tally.is(3, m.wouldDo(1, 4));
        Tally.is(2, m.wouldDo(0, 8));
        Tally.is(1, m.wouldDo(0, 9));
        Tally.is(3, m.write(0, 0, 1));
        Tally.is(0, m.wouldDo(0, 0));
        Tally.is("a frame of a widow of its own", 0, m.wouldDo(1, 0));
        Tally.is("torn", 2, m.wouldDo(0, 1));
        Tally.is("a widow", 3, m.wouldDo(1, 1));
    }

    private static void wouldDoRefuses() {
        PageMarriages m = Look.story("Mf0x0");
        int[][] missing = {{-1, 0}, {0, 0}, {2, 0}, {4, 0}, {1, -1}, {1, 16},
            {Integer.MIN_VALUE, 0}, {1, Integer.MAX_VALUE}, {33, 0}};
        for (int[] at : missing) {
            Tally.outOfBounds(() -> m.wouldDo(at[0], at[1]));
        }
    }

    private static void wouldDoWithoutFrames() {
        PageMarriages full = Look.story("Mf0");
        Look.fill(full, 0, 31);
        full.fork(0);
        Tally.is(1, full.wouldDo(1, 15));
        Tally.is(2, full.wouldDo(2, 0));
        full.write(1, 15, 1);
        Tally.is(-1, full.wouldDo(2, 0));
        Tally.is(0, full.wouldDo(1, 15));
        full.exit(2);
        full.marry(0, 1);
        full.fork(0);
        Tally.is("big and shared, and no frame is free", -1, full.wouldDo(0, 4));
        full.write(1, 0, 0);
        full.press(1);
        Tally.is(3, full.wouldDo(0, 4));
        full.write(2, 4, 1);
        Tally.is("no frame, and none is free", -1, full.wouldDo(1, 0));
    }

    private static void marriages() {
        PageMarriages m = new PageMarriages();
        Tally.is(0, m.marriages());
        for (int v = 0; v < 16; v++) {
            m.write(0, v, 1);
            Tally.is((v + 1) / 4, m.marriages());
        }
        m.marry(0, 1);
        Tally.is("a big one cannot", 3, m.marriages());
        m.fork(0);
        Tally.is("shared", 0, m.marriages());
        for (int v = 0; v < 16; v++) {
            m.write(1, v, 2);
        }
        Tally.is("a big one of the process 1 was torn by its writes", 7, m.marriages());
        PageMarriages late = Look.story("Mf0f0f0");
        for (int v = 0; v < 16; v++) {
            late.write(3, v, 1);
        }
        Tally.is("the process 3", 4, late.marriages());
        PageMarriages full = Look.story("Mf0w00101w00001");
        Look.fill(full, 2, 32);
        Tally.is("all but the one that is not in place", 7, full.marriages());
        full.write(1, 0, 0);
        full.press(1);
        Tally.is(6, full.marriages());
    }

    /**
     * Two groups lie crosswise in two runs, and one run is free: the first moves there, and its
     * frames do not make a free run, so the second moves only if the first one's goods left one.
     */
    private static void marriagesInPlaceFirst() {
        PageMarriages m = Look.story("Mf0w00001w00401w00101w00501w00201w00601w00301w00701");
        Look.fill(m, 8, 28);
        Tally.is(1, m.about(2));
        Tally.is("one crosswise, and five in place", 6, m.marriages());
        m.exit(1);
        Tally.is("two crosswise, and two in place", 4, m.marriages());
        PageMarriages one = Look.story("Mf0w00101w00001w00201w00301w00501w00401w00601w00701");
        Look.fill(one, 8, 28);
        Tally.is("the first leaves its run to the second", 7, one.marriages());
    }

    private static void mostFree() {
        PageMarriages m = new PageMarriages();
        Tally.is(32, m.mostFree());
        m.setEager(true);
        m.write(0, 0, 1);
        m.write(0, 5, 0);
        Tally.is(31, m.mostFree());
        m.fork(0);
        Tally.is(24, m.mostFree());
        m.write(1, 0, 0);
        Tally.is("the copy is lost again, and its own frame stays", 24, m.mostFree());
        for (int v = 1; v < 4; v++) {
            m.write(1, v, 1);
        }
        Tally.is("the widow has no shared frame any more", 24, m.mostFree());
        m.exit(1);
        Tally.is(31, m.mostFree());
    }

    private static void writables() {
        PageMarriages m = new PageMarriages();
        Tally.is(16, m.writable(0));
        for (int v = 0; v < 16; v++) {
            m.write(0, v, 2);
        }
        m.fork(0);
        Tally.is(16, m.writable(1));
        for (int v = 0; v < 12; v++) {
            m.write(1, v, 3);
        }
        m.fork(0);
        Tally.is("four frames are free", 4, m.writable(0));
        Tally.is(4, m.writable(2));
        Tally.is("its first twelve pages are its own", 16, m.writable(1));
        m.write(0, 1, 1);
        Tally.is("the page 1 takes none", 4, m.writable(0));
        m.write(0, 9, 1);
        m.write(0, 0, 1);
        m.write(0, 2, 1);
        Tally.is("the pages 0 to 2 are its own", 3, m.writable(0));
        Tally.is("so they are the process 2's", 3, m.writable(2));
        Tally.is(12, m.writable(1));
        PageMarriages eager = Look.story("Mf0e");
        for (int i = 0; i < 20; i++) {
            eager.write(1 - i / 16, i % 16, 1);
        }
        eager.fork(0);
        Tally.is("three runs are free, and big ones take them", 12, eager.about(1));
        Tally.is("four copies, and two runs with the values 0", 12, eager.writable(2));
    }

    private static void writableRefuses() {
        PageMarriages m = Look.story("Mf0x0");
        int[] missing = {-1, 0, 2, 3, 4, 33, Integer.MIN_VALUE, Integer.MAX_VALUE};
        for (int p : missing) {
            Tally.outOfBounds(() -> m.writable(p));
        }
        Tally.is(16, m.writable(1));
    }

    private static void changeNothing() {
        PageMarriages m = Look.story("Mw00101w00000w00202w00300w00800ew01200f0w11301");
        m.setEager(false);
        Look.unchangedBy(m, () -> {
            m.whyNot(0, 0);
            m.wouldDo(0, 13);
            m.marriages();
            m.mostFree();
            m.writable(0);
            m.writable(1);
            m.simulate(7, 99);
            m.runScript(3, 200030000060032L);
        });
        Tally.is(0, m.undo());
    }
}
