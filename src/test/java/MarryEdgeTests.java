/** Promises 13 and 14 at their edges. */
final class MarryEdgeTests {
    private MarryEdgeTests() {
    }

    static void run(Edges.Book book) {
        marry(book.promise(13));
        tear(book.promise(14));
    }

    // ---- promise 13

    private static void marry(Edges e) {
        e.holds("Throws IndexOutOfBoundsException if there is no such process or group", () -> {
            Unchanged.outOfBounds(Scenes::usual, m -> m.marry(-1, 0), m -> m.marry(2, 0),
                m -> m.marry(4, 0), m -> m.marry(0, -1), m -> m.marry(1, 4),
                m -> m.marry(Integer.MIN_VALUE, 0), m -> m.marry(Integer.MAX_VALUE, 0),
                m -> m.marry(0, Integer.MIN_VALUE), m -> m.marry(0, Integer.MAX_VALUE));
            Unchanged.outOfBounds(Scenes::four, m -> m.marry(4, 0), m -> m.marry(3, 4),
                m -> m.marry(-1, 0));
        });
        e.holds("Throws IllegalStateException if whyNot(p, g) is not 0",
            MarryEdgeTests::cannotMarry);
        e.holds("If several exceptions apply to a call, the one that its description names first"
            + " is thrown.", () -> Unchanged.outOfBounds(Scenes::lone, m -> m.marry(0, 4),
                m -> m.marry(2, 4), m -> m.marry(0, 0)));
        e.holds("p: process", () -> {
            PageMarriages m = Scenes.four();
            m.write(3, 13, 1);
            m.write(3, 12, 1);
            m.write(3, 14, 1);
            m.write(3, 15, 1);
            m.write(0, 4, 1);
            m.write(0, 5, 1);
            m.write(0, 6, 1);
            m.write(0, 7, 1);
            Tally.is("the last process", 4, m.marry(3, 3));
            Tally.is("the first process", 4, m.marry(0, 1));
        });
        e.holds("g: group", MarryEdgeTests::firstAndLastGroup);
        e.holds("A group can marry if it is not big, all its pages have frames, none of which is"
            + " shared", MarryEdgeTests::allFramesOfItsOwn);
        e.holds("and if these are the frames of a run in their order already (it marries in"
            + " place), or a run is free.", MarryEdgeTests::inPlaceOrElsewhere);
        e.holds("its four values are copied to the lowest free run (as it is ahead of that), and"
            + " its frames become free; these are 4 copies", MarryEdgeTests::lowestFreeRun);
        e.holds("Returns the copies that are made, 0 or 4.", MarryEdgeTests::copiesMade);
    }

    private static void cannotMarry() {
        Unchanged.illegalState(Scenes::usual, m -> m.marry(1, 0), m -> m.marry(0, 3),
            m -> m.marry(0, 1), m -> m.marry(1, 3), m -> m.marry(0, 0));
        Unchanged.illegalState(Scenes::crowded, m -> m.marry(0, 1), m -> m.marry(1, 3),
            m -> m.marry(0, 0), m -> m.marry(2, 3));
        Unchanged.illegalState(MarryEdgeTests::noRunFree, m -> m.marry(0, 0),
            m -> m.marry(1, 2));
    }

    /** All groups but the last lie across their runs, and one frame of the run 7 is used. */
    private static PageMarriages noRunFree() {
        PageMarriages m = Scenes.crosswise();
        m.write(1, 12, 1);
        return m;
    }

    private static void firstAndLastGroup() {
        PageMarriages m = new PageMarriages();
        Look.fill(m, 0, 16);
        Tally.is(0, m.marry(0, 0));
        Tally.is(0, m.marry(0, 3));
        Tally.is(1, m.group(0, 0, 1));
        Tally.is(0, m.group(0, 1, 1));
        Tally.is(0, m.group(0, 2, 1));
        Tally.is(1, m.group(0, 3, 1));
    }

    private static void allFramesOfItsOwn() {
        PageMarriages m = Look.story("Mw00001w00101w00201");
        Tally.illegalState(() -> m.marry(0, 0));
        m.write(0, 3, 1);
        m.fork(0);
        for (int v = 0; v < 4; v++) {
            Tally.illegalState(() -> m.marry(0, 0));
            Tally.illegalState(() -> m.marry(1, 0));
            m.write(1, v, 1);
        }
        Tally.is("no frame is shared any more", 0, m.marry(0, 0));
        Tally.is(0, m.marry(1, 0));
        Tally.illegalState(() -> m.marry(0, 0));
        Tally.is(2, m.about(3));
    }

    private static void inPlaceOrElsewhere() {
        PageMarriages full = Scenes.full();
        for (int i = 0; i < 8; i++) {
            Tally.is("in place, though no run is free", 0, full.marry(i / 4, i % 4));
        }
        PageMarriages last = Scenes.crosswise();
        Tally.is("the last run is free", 4, last.marry(1, 2));
        Tally.is(7, last.group(1, 2, 4));
        PageMarriages none = noRunFree();
        Tally.illegalState(() -> none.marry(1, 2));
        PageMarriages shifted = Look.story("Mw00801w00001w00102w00203w00304");
        Tally.is("in order, but over two runs", 4, shifted.marry(0, 0));
        Tally.is(2, shifted.group(0, 0, 4));
        int[][] orders = {{1, 0, 2, 3}, {0, 2, 1, 3}, {0, 1, 3, 2}, {3, 0, 1, 2}};
        for (int[] order : orders) {
            PageMarriages m = new PageMarriages();
            for (int v : order) {
                m.write(0, v, v);
            }
            Tally.is("one run, but not in order", 4, m.marry(0, 0));
            Tally.is(1, m.group(0, 0, 4));
        }
        for (int away = 0; away < 4; away++) {
            PageMarriages m = new PageMarriages();
            for (int v = 0; v < 4; v++) {
                m.write(0, v == away ? 8 : v, 1);
            }
            m.write(0, away, 1);
            Tally.is("one page lies in another run", 4, m.page(0, away, 0));
            Tally.is(4, m.marry(0, 0));
            Tally.is(2, m.group(0, 0, 4));
        }
    }

    private static void lowestFreeRun() {
        PageMarriages m = Scenes.crosswise();
        Tally.is(4, m.marry(0, 2));
        Tally.is("not its own run, which becomes free", 7, m.group(0, 2, 4));
        Tally.is("only that one is free", 1, m.about(2));
        for (int i = 0; i < 4; i++) {
            Tally.is(-1, m.user(8 + i, 0));
            Tally.is(28 + i, m.page(0, 8 + i, 0));
        }
        Tally.is("the order of the writes is 9, 8, 10, 11", 9, m.page(0, 8, 1));
        Tally.is(8, m.page(0, 9, 1));
        Tally.is(10, m.page(0, 10, 1));
        Tally.is(11, m.page(0, 11, 1));
        Tally.is(4, m.about(6));
        Tally.is(4, m.about(1));
        Tally.is("the next one moves there", 4, m.marry(1, 2));
        Tally.is(2, m.group(1, 2, 4));
    }

    private static void copiesMade() {
        PageMarriages m = Scenes.crosswise();
        m.fork(0);
        m.exit(2);
        Tally.is(4, m.marry(0, 0));
        Tally.is(4, m.about(6));
        m.tear(0, 0);
        Tally.is("it is in place now", 0, m.marry(0, 0));
        Tally.is(4, m.about(6));
        Tally.is("its goods are the same", 1, m.page(0, 0, 1));
    }

    // ---- promise 14

    private static void tear(Edges e) {
        e.holds("Throws IndexOutOfBoundsException if there is no such process or group", () -> {
            Unchanged.outOfBounds(Scenes::usual, m -> m.tear(-1, 0), m -> m.tear(2, 0),
                m -> m.tear(4, 0), m -> m.tear(0, -1), m -> m.tear(1, 4),
                m -> m.tear(Integer.MIN_VALUE, 0), m -> m.tear(Integer.MAX_VALUE, 0),
                m -> m.tear(0, Integer.MIN_VALUE), m -> m.tear(0, Integer.MAX_VALUE));
            Unchanged.outOfBounds(Scenes::four, m -> m.tear(4, 0), m -> m.tear(3, 4),
                m -> m.tear(-1, 0));
        });
        e.holds("Throws IllegalStateException if it is not big", () -> {
            Unchanged.illegalState(Scenes::usual, m -> m.tear(0, 0), m -> m.tear(0, 1),
                m -> m.tear(1, 3));
            PageMarriages m = Scenes.usual();
            m.tear(1, 0);
            Tally.illegalState(() -> m.tear(1, 0));
        });
        e.holds("If several exceptions apply to a call, the one that its description names first"
            + " is thrown.", () -> Unchanged.outOfBounds(Scenes::lone, m -> m.tear(0, 4),
                m -> m.tear(2, 4), m -> m.tear(0, 0)));
        e.holds("p: process", () -> {
            PageMarriages m = Look.story("Mew00001f0f0f0");
            Tally.is("the last process", 0, m.tear(3, 0));
            Tally.is("the first process", 0, m.tear(0, 0));
            Tally.is(2, m.about(3));
        });
        e.holds("g: group", () -> {
            PageMarriages m = Look.story("Mew00001w01201");
            Tally.is(1, m.tear(0, 3));
            Tally.is(0, m.tear(0, 0));
        });
        e.holds("Returns its run.", () -> {
            PageMarriages m = Scenes.full();
            m.marry(0, 0);
            m.marry(1, 3);
            Tally.is("the first run", 0, m.tear(0, 0));
            Tally.is("the last run", 7, m.tear(1, 3));
        });
        e.holds("it is not big any more, though its pages keep their frames", () -> {
            PageMarriages m = Look.story("Mew01407");
            m.tear(0, 3);
            Tally.is(4, m.group(0, 3, 0));
            Tally.is(0, m.group(0, 3, 1));
            Tally.is(28, m.about(1));
            Tally.is(7, m.page(0, 14, 1));
            Tally.is(1, m.about(8));
            Tally.is("in place still", 0, m.marry(0, 3));
        });
    }
}
