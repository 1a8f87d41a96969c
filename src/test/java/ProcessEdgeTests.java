/** Promises 11 and 12 at their edges. */
final class ProcessEdgeTests {
    private ProcessEdgeTests() {
    }

    static void run(Edges.Book book) {
        fork(book.promise(11));
        exit(book.promise(12));
    }

    // ---- promise 11

    private static void fork(Edges e) {
        e.holds("Throws IndexOutOfBoundsException if there is no such process", () -> {
            Unchanged.outOfBounds(Scenes::usual, m -> m.fork(-1), m -> m.fork(2), m -> m.fork(3),
                m -> m.fork(4), m -> m.fork(32), m -> m.fork(Integer.MIN_VALUE),
                m -> m.fork(Integer.MAX_VALUE));
            Unchanged.outOfBounds(Scenes::lone, m -> m.fork(0), m -> m.fork(1), m -> m.fork(3));
        });
        e.holds("Throws IllegalStateException if there are 4 processes", ProcessEdgeTests::isFull);
        e.holds("If several exceptions apply to a call, the one that its description names first"
            + " is thrown.", () -> Unchanged.outOfBounds(Scenes::four, m -> m.fork(4),
                m -> m.fork(-1), m -> m.fork(Integer.MAX_VALUE)));
        e.holds("p: process", () -> {
            PageMarriages m = Scenes.four();
            m.exit(1);
            Tally.is("a fork of the last", 1, m.fork(3));
            m.exit(2);
            Tally.is("a fork of the first", 2, m.fork(0));
        });
        e.holds("There are at most 4 processes at a time, with numbers from 0 to 3.",
            ProcessEdgeTests::upToFour);
        e.holds("the new one has the lowest number that is not in use",
            ProcessEdgeTests::lowestNumber);
        e.holds("its pages use the same frames, and its groups are big where those of the first"
            + " one are", ProcessEdgeTests::sameFrames);
    }

    private static void isFull() {
        Unchanged.illegalState(Scenes::four, m -> m.fork(0), m -> m.fork(3), m -> m.fork(1));
        PageMarriages m = Scenes.four();
        m.exit(2);
        Tally.is("three processes", 2, m.fork(0));
        Tally.illegalState(() -> m.fork(0));
    }

    private static void upToFour() {
        PageMarriages m = new PageMarriages();
        Tally.is(1, m.fork(0));
        Tally.is(2, m.fork(1));
        Tally.is(3, m.fork(2));
        Tally.illegalState(() -> m.fork(3));
        Tally.is(15, m.about(0));
    }

    private static void lowestNumber() {
        for (int gone = 0; gone < 4; gone++) {
            PageMarriages m = Scenes.four();
            m.exit(gone);
            Tally.is(gone, m.fork(gone == 3 ? 0 : 3));
        }
        PageMarriages lone = Scenes.lone();
        Tally.is("ahead of it", 0, lone.fork(2));
        Tally.is("ahead of it", 1, lone.fork(2));
        Tally.is("behind it", 3, lone.fork(2));
        Tally.illegalState(() -> lone.fork(2));
    }

    private static void sameFrames() {
        PageMarriages m = Scenes.crowded();
        Tally.is("no frame is free, and none is needed", 3, m.fork(1));
        for (int v = 0; v < 16; v++) {
            Tally.is(v == 15 ? -1 : 16 + v, m.page(3, v, 0));
            Tally.is(v == 15 ? -1 : 2, m.page(3, v, 2));
        }
        PageMarriages big = Look.story("Mew00000w01200");
        big.fork(0);
        Tally.is(1, big.group(1, 0, 1));
        Tally.is(0, big.group(1, 1, 1));
        Tally.is(0, big.group(1, 2, 1));
        Tally.is(1, big.group(1, 3, 1));
        PageMarriages bare = new PageMarriages();
        bare.fork(0);
        Tally.is("a process without frames", 32, bare.about(1));
        Tally.is(-1, bare.page(1, 0, 0));
    }

    // ---- promise 12

    private static void exit(Edges e) {
        e.holds("Throws IndexOutOfBoundsException if there is no such process", () -> {
            Unchanged.outOfBounds(Scenes::usual, m -> m.exit(-1), m -> m.exit(2), m -> m.exit(3),
                m -> m.exit(4), m -> m.exit(32), m -> m.exit(Integer.MIN_VALUE),
                m -> m.exit(Integer.MAX_VALUE));
            Unchanged.outOfBounds(Scenes::four, m -> m.exit(4), m -> m.exit(-1));
        });
        e.holds("Throws IllegalStateException if it is the only one", () -> {
            Unchanged.illegalState(Scenes::lone, m -> m.exit(2));
            Unchanged.illegalState(PageMarriages::new, m -> m.exit(0));
            PageMarriages two = Scenes.usual();
            two.exit(0);
            Tally.illegalState(() -> two.exit(1));
        });
        e.holds("If several exceptions apply to a call, the one that its description names first"
            + " is thrown.", () -> Unchanged.outOfBounds(Scenes::lone, m -> m.exit(0),
                m -> m.exit(3), m -> m.exit(-1), m -> m.exit(4)));
        e.holds("p: process", () -> {
            PageMarriages m = Scenes.four();
            m.exit(0);
            m.exit(3);
            Tally.is(6, m.about(0));
        });
        e.holds("Ends a process; frames that no page uses then are free.",
            ProcessEdgeTests::framesBecomeFree);
        e.holds("Returns the number of frames that become free.", ProcessEdgeTests::freed);
    }

    private static void framesBecomeFree() {
        PageMarriages m = Scenes.crowded();
        Tally.is("all are shared but the page 0", 1, m.exit(2));
        Tally.is(-1, m.user(31, 0));
        Tally.is(0, m.user(0, 0));
        Tally.is("nothing is shared any more", 0, m.about(5));
        Tally.is("the number is no process's", 3, m.about(0));
        Tally.outOfBounds(() -> m.page(2, 0, 0));
        PageMarriages again = Scenes.crowded();
        again.exit(0);
        again.exit(2);
        Tally.is("now the big group is gone", 0, again.about(3));
        Tally.is(17, again.about(1));
    }

    private static void freed() {
        PageMarriages m = Scenes.four();
        Tally.is("shared by four", 0, m.exit(0));
        Tally.is("by three", 0, m.exit(3));
        Tally.is("by two", 0, m.exit(1));
        PageMarriages bare = Look.story("Mf0");
        Tally.is("it has no frames", 0, bare.exit(0));
        PageMarriages most = Scenes.full();
        Tally.is("all 16 pages have their own", 16, most.exit(0));
        Tally.is(16, most.about(1));
        Tally.is("a page and a big group", 5, Look.story("Mf0w10001ew10401").exit(1));
    }
}
