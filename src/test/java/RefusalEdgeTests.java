/** The refusals of all promises: what each exception means, and that nothing is changed. */
final class RefusalEdgeTests {
    private static final String NOTHING = "A call that throws an exception changes nothing.";
    private static final String MISSING = "IndexOutOfBoundsException means that a process, a page,"
        + " a group or a frame does not exist, or that a save slot is not 0 or 1.";
    private static final String OUT_OF_RANGE =
        "IllegalArgumentException means that another argument is out of its range.";

    private RefusalEdgeTests() {
    }

    static void run(Edges.Book book) {
        meanings(book);
        text(book);
        looks(book);
        actions(book);
        questions(book);
        slots(book);
    }

    /** No frame is free, 14 states are remembered, both slots are filled, the text is no story. */
    private static PageMarriages busy() {
        PageMarriages m = Scenes.crowded();
        m.save(0);
        m.exit(1);
        m.save(1);
        m.undo();
        m.write(0, 0, 7);
        Look.type(m, "Mf0m0");
        return m;
    }

    /** Four processes and no free frame. */
    private static PageMarriages busyFour() {
        PageMarriages m = busy();
        m.fork(1);
        return m;
    }

    private static void missing(Edges.Book book, int promise, Unchanged.Call... calls) {
        book.promise(promise).holds(MISSING,
            () -> Unchanged.outOfBounds(RefusalEdgeTests::busy, calls));
    }

    private static void outOfRange(Edges.Book book, int promise, Unchanged.Call... calls) {
        book.promise(promise).holds(OUT_OF_RANGE,
            () -> Unchanged.illegalArgument(RefusalEdgeTests::busy, calls));
    }

    /** The numbers just below and just above each range, at the last that exist beside them. */
    private static void meanings(Edges.Book book) {
        outOfRange(book, 2, m -> m.append(-1), m -> m.append(256));
        outOfRange(book, 6, m -> m.about(-1), m -> m.about(11));
        missing(book, 7, m -> m.page(-1, 15, 3), m -> m.page(3, 15, 3), m -> m.page(4, 0, 0),
            m -> m.page(2, -1, 3), m -> m.page(2, 16, 3));
        outOfRange(book, 7, m -> m.page(2, 15, -1), m -> m.page(2, 15, 4));
        missing(book, 8, m -> m.user(-1, 0), m -> m.user(32, 0));
        outOfRange(book, 8, m -> m.user(31, -1));
        missing(book, 9, m -> m.group(-1, 3, 4), m -> m.group(3, 3, 4), m -> m.group(4, 0, 0),
            m -> m.group(2, -1, 4), m -> m.group(2, 4, 4));
        outOfRange(book, 9, m -> m.group(2, 3, -1), m -> m.group(2, 3, 5));
        missing(book, 10, m -> m.write(-1, 0, 99), m -> m.write(3, 0, 99), m -> m.write(4, 0, 0),
            m -> m.write(2, -1, 99), m -> m.write(2, 16, 99));
        outOfRange(book, 10, m -> m.write(2, 0, -1), m -> m.write(2, 0, 100));
        missing(book, 11, m -> m.fork(-1), m -> m.fork(3), m -> m.fork(4));
        missing(book, 12, m -> m.exit(-1), m -> m.exit(3), m -> m.exit(4));
        missing(book, 13, m -> m.marry(-1, 0), m -> m.marry(3, 0), m -> m.marry(4, 0),
            m -> m.marry(1, -1), m -> m.marry(1, 4));
        missing(book, 14, m -> m.tear(-1, 1), m -> m.tear(3, 1), m -> m.tear(4, 1),
            m -> m.tear(0, -1), m -> m.tear(0, 4));
        outOfRange(book, 15, m -> m.press(0), m -> m.press(33));
        missing(book, 18, m -> m.whyNot(-1, 0), m -> m.whyNot(3, 0), m -> m.whyNot(4, 0),
            m -> m.whyNot(1, -1), m -> m.whyNot(1, 4));
        missing(book, 19, m -> m.wouldDo(-1, 0), m -> m.wouldDo(3, 0), m -> m.wouldDo(4, 0),
            m -> m.wouldDo(1, -1), m -> m.wouldDo(1, 16));
        missing(book, 22, m -> m.writable(-1), m -> m.writable(3), m -> m.writable(4));
        outOfRange(book, 23, m -> m.runScript(0, 0), m -> m.runScript(4, 0),
            m -> m.runScript(1, -1), m -> m.runScript(3, 1_000_000_000_000_000L));
        outOfRange(book, 24, m -> m.simulate(7, 0), m -> m.simulate(7, 100));
        missing(book, 25, m -> m.save(-1), m -> m.save(2));
        missing(book, 26, m -> m.restore(-1), m -> m.restore(2));
    }

    private static void text(Edges.Book book) {
        book.promise(2).holds(NOTHING, () -> {
            Unchanged.illegalArgument(RefusalEdgeTests::busy, m -> m.append(256));
            Unchanged.illegalState(Scenes::fullText, m -> m.append('e'));
        });
        book.promise(5).holds(NOTHING, () -> {
            Unchanged.illegalState(RefusalEdgeTests::busy, m -> m.load());
            Unchanged.illegalState(PageMarriages::new, m -> m.load());
        });
    }

    private static void looks(Edges.Book book) {
        book.promise(6).holds(NOTHING, () ->
            Unchanged.illegalArgument(RefusalEdgeTests::busyFour, m -> m.about(11)));
        book.promise(7).holds(NOTHING, () ->
            Unchanged.illegalArgument(RefusalEdgeTests::busyFour, m -> m.page(3, 15, 4)));
        book.promise(8).holds(NOTHING, () ->
            Unchanged.illegalArgument(RefusalEdgeTests::busyFour, m -> m.user(31, -1)));
        book.promise(9).holds(NOTHING, () ->
            Unchanged.illegalArgument(RefusalEdgeTests::busyFour, m -> m.group(3, 3, 5)));
    }

    private static void actions(Edges.Book book) {
        book.promise(10).holds(NOTHING, () -> {
            Unchanged.illegalArgument(RefusalEdgeTests::busyFour, m -> m.write(3, 0, 100));
            Unchanged.illegalState(RefusalEdgeTests::busyFour, m -> m.write(3, 0, 99),
                m -> m.write(1, 15, 0), m -> m.write(0, 4, 0));
        });
        book.promise(11).holds(NOTHING, () ->
            Unchanged.illegalState(RefusalEdgeTests::busyFour, m -> m.fork(3)));
        book.promise(12).holds(NOTHING, () -> {
            Unchanged.illegalState(Scenes::lone, m -> m.exit(2));
            Unchanged.outOfBounds(RefusalEdgeTests::busyFour, m -> m.exit(4));
        });
        book.promise(13).holds(NOTHING, () ->
            Unchanged.illegalState(RefusalEdgeTests::busyFour, m -> m.marry(0, 0),
                m -> m.marry(0, 1), m -> m.marry(3, 3)));
        book.promise(14).holds(NOTHING, () ->
            Unchanged.illegalState(RefusalEdgeTests::busyFour, m -> m.tear(0, 0),
                m -> m.tear(3, 1)));
        book.promise(15).holds(NOTHING, () ->
            Unchanged.illegalArgument(() -> Look.story("Mew00000w00400f0"), m -> m.press(0),
                m -> m.press(33)));
        book.promise(17).holds(NOTHING, () ->
            Unchanged.illegalState(() -> Look.story("Mew00000w00400f0"), m -> m.undo()));
    }

    private static void questions(Edges.Book book) {
        book.promise(18).holds(NOTHING, () ->
            Unchanged.outOfBounds(RefusalEdgeTests::busyFour, m -> m.whyNot(3, 4)));
        book.promise(19).holds(NOTHING, () ->
            Unchanged.outOfBounds(RefusalEdgeTests::busyFour, m -> m.wouldDo(3, 16)));
        book.promise(22).holds(NOTHING, () ->
            Unchanged.outOfBounds(RefusalEdgeTests::busyFour, m -> m.writable(4)));
        book.promise(23).holds(NOTHING, () ->
            Unchanged.illegalArgument(RefusalEdgeTests::busyFour, m -> m.runScript(1, 130001),
                m -> m.runScript(0, 30000), m -> m.runScript(4, 30000)));
        book.promise(24).holds(NOTHING, () ->
            Unchanged.illegalArgument(RefusalEdgeTests::busyFour, m -> m.simulate(3, 0),
                m -> m.simulate(3, 100)));
    }

    private static void slots(Edges.Book book) {
        book.promise(25).holds(NOTHING, () ->
            Unchanged.outOfBounds(RefusalEdgeTests::busyFour, m -> m.save(2), m -> m.save(-1)));
        book.promise(26).holds(NOTHING, () -> {
            Unchanged.outOfBounds(RefusalEdgeTests::busyFour, m -> m.restore(2));
            Unchanged.illegalState(Scenes::crowded, m -> m.restore(0), m -> m.restore(1));
        });
    }
}
