/** Promises 18 to 22 at their edges. */
final class QuestionEdgeTests {
    private static final int NONE = PageMarriages.NONE;
    private static final String CHANGE_NOTHING =
        "these and all following methods up to the save slots change nothing";

    private QuestionEdgeTests() {
    }

    static void run(Edges.Book book) {
        whyNot(book.promise(18));
        wouldDo(book.promise(19));
        marriages(book.promise(20));
        mostFree(book.promise(21));
        writable(book.promise(22));
    }

    // ---- promise 18

    private static void whyNot(Edges e) {
        e.holds("Throws IndexOutOfBoundsException if there is no such process or group", () -> {
            Unchanged.outOfBounds(Scenes::usual, m -> m.whyNot(-1, 0), m -> m.whyNot(2, 0),
                m -> m.whyNot(4, 0), m -> m.whyNot(0, -1), m -> m.whyNot(1, 4),
                m -> m.whyNot(Integer.MIN_VALUE, 0), m -> m.whyNot(Integer.MAX_VALUE, 0),
                m -> m.whyNot(0, Integer.MIN_VALUE), m -> m.whyNot(0, Integer.MAX_VALUE));
            Unchanged.outOfBounds(Scenes::four, m -> m.whyNot(4, 0), m -> m.whyNot(3, 4),
                m -> m.whyNot(-1, 0));
        });
        e.holds("p: process", () -> {
            PageMarriages m = Scenes.four();
            Tally.is(2, m.whyNot(0, 0));
            Tally.is(2, m.whyNot(3, 0));
        });
        e.holds("g: group", () -> {
            PageMarriages m = Look.story("Mew00001w01201");
            Tally.is(1, m.whyNot(0, 0));
            Tally.is(2, m.whyNot(0, 1));
            Tally.is(2, m.whyNot(0, 2));
            Tally.is(1, m.whyNot(0, 3));
        });
        e.holds("Returns 0 if it can; otherwise the first of these that applies: 1: it is big;"
            + " 2: a page has no frame; 3: a page has a shared frame; 4: it would not be in"
            + " place, and no run is free.", QuestionEdgeTests::reasons);
        e.holds("(it marries in place), or a run is free", QuestionEdgeTests::lastFreeRun);
        e.holds(CHANGE_NOTHING, () -> Unchanged.by(Scenes::crosswise, m -> m.whyNot(0, 0),
            m -> m.whyNot(1, 3)));
    }

    private static void reasons() {
        PageMarriages m = Look.story("Mew00001f0");
        Tally.is("big, and shared too", 1, m.whyNot(0, 0));
        m.tear(0, 0);
        Tally.is("shared", 3, m.whyNot(0, 0));
        Tally.is("a widow is big", 1, m.whyNot(1, 0));
        m.setEager(false);
        m.write(0, 4, 0);
        m.write(0, 5, 0);
        m.write(0, 6, 0);
        m.fork(0);
        Tally.is("one page has no frame, and the others are shared", 2, m.whyNot(0, 1));
        PageMarriages none = Scenes.crowded();
        Tally.is("shared, and no run is free", 3, none.whyNot(0, 0));
        Tally.is("one page has no frame, and no run is free", 2, none.whyNot(1, 3));
        Tally.is("big, and no run is free", 1, none.whyNot(0, 1));
        Tally.is("in place, and no run is free", 0, none.whyNot(1, 0));
    }

    private static void lastFreeRun() {
        PageMarriages m = Scenes.crosswise();
        Tally.is("the run 7 is free", 0, m.whyNot(0, 0));
        m.write(1, 15, 1);
        Tally.is("no run is free", 4, m.whyNot(0, 0));
        Tally.is("no run is free", 4, m.whyNot(1, 2));
        m.undo();
        Tally.is(0, m.whyNot(1, 2));
    }

    // ---- promise 19

    private static void wouldDo(Edges e) {
        e.holds("Throws IndexOutOfBoundsException if there is no such process or page", () -> {
            Unchanged.outOfBounds(Scenes::usual, m -> m.wouldDo(-1, 0), m -> m.wouldDo(2, 0),
                m -> m.wouldDo(4, 0), m -> m.wouldDo(0, -1), m -> m.wouldDo(1, 16),
                m -> m.wouldDo(Integer.MIN_VALUE, 0), m -> m.wouldDo(Integer.MAX_VALUE, 0),
                m -> m.wouldDo(0, Integer.MIN_VALUE), m -> m.wouldDo(0, Integer.MAX_VALUE));
            Unchanged.outOfBounds(Scenes::crowded, m -> m.wouldDo(3, 0), m -> m.wouldDo(2, 16));
        });
        e.holds("p: process", () -> {
            Tally.is(2, Scenes.four().wouldDo(0, 0));
            Tally.is(2, Scenes.four().wouldDo(3, 0));
        });
        e.holds("v: page", () -> {
            PageMarriages m = Look.story("Mw00000w01500");
            Tally.is(0, m.wouldDo(0, 0));
            Tally.is(1, m.wouldDo(0, 1));
            Tally.is(1, m.wouldDo(0, 14));
            Tally.is(0, m.wouldDo(0, 15));
        });
        e.holds("Returns what write() would return; NONE if it is not possible.",
            QuestionEdgeTests::lastFreeFrame);
        e.holds(CHANGE_NOTHING, () -> Unchanged.by(Scenes::oneFree, m -> m.wouldDo(0, 0),
            m -> m.wouldDo(1, 15), m -> m.wouldDo(2, 4), m -> m.wouldDo(1, 0)));
    }

    private static void lastFreeFrame() {
        PageMarriages one = Scenes.oneFree();
        Tally.is(1, one.wouldDo(1, 15));
        Tally.is(2, one.wouldDo(2, 0));
        Tally.is(3, one.wouldDo(2, 4));
        Tally.is(3, one.wouldDo(0, 7));
        Tally.is(0, one.wouldDo(1, 14));
        PageMarriages none = Scenes.crowded();
        Tally.is("a fault", NONE, none.wouldDo(1, 15));
        Tally.is("a copy", NONE, none.wouldDo(2, 1));
        Tally.is("a copy, and a tear", NONE, none.wouldDo(2, 4));
        Tally.is("its own frame", 0, none.wouldDo(2, 0));
        Tally.is("its own frame", 0, none.wouldDo(0, 0));
    }

    // ---- promise 20

    private static void marriages(Edges e) {
        e.holds("Returns how many groups could marry", () -> {
            Tally.is("none", 0, new PageMarriages().marriages());
            Tally.is("all that have frames of their own", 8, Scenes.full().marriages());
            Tally.is("the last group of the last process", 1,
                Look.story("Mf0f0f0w31201w31301w31401w31501").marriages());
            Tally.is("all are big already", 0,
                Look.story("Mew00001w00401w00801w01201").marriages());
            Tally.is("all are shared", 0,
                Look.story("Mw00001w00101w00201w00301f0").marriages());
        });
        e.holds("the first group, by processes, then by groups, that can marry in place does so,"
            + " or, if there is none, the first that can marry otherwise, until there is none",
            QuestionEdgeTests::untilThereIsNone);
        e.holds(CHANGE_NOTHING, () -> {
            Unchanged.by(Scenes::crosswise, m -> m.marriages());
            Unchanged.by(Scenes::usual, m -> m.marriages());
        });
    }

    private static void untilThereIsNone() {
        PageMarriages m = Scenes.crosswise();
        Tally.is("each leaves its run to the next", 7, m.marriages());
        m.write(1, 13, 1);
        Tally.is("no run is free", 0, m.marriages());
        m.write(1, 12, 1);
        m.write(1, 14, 1);
        m.write(1, 15, 1);
        Tally.is("no frame is free", 0, m.marriages());
        PageMarriages last = Look.story("Mf0f0f0");
        for (int i = 0; i < 28; i++) {
            last.write(3 - i / 16, i % 16 ^ 1, 1);
        }
        Tally.is("the processes 2 and 3", 7, last.marriages());
        PageMarriages full = Scenes.full();
        full.write(1, 15, 0);
        full.press(1);
        Tally.is("one lacks a page", 7, full.marriages());
    }

    // ---- promise 21

    private static void mostFree(Edges e) {
        e.holds("Returns the number of free frames behind press(32).", () -> {
            Tally.is("all are free", 32, new PageMarriages().mostFree());
            Tally.is("none can be freed", 0, Scenes.full().mostFree());
            Tally.is("a page with the value 0", 32, Look.story("Mw00000").mostFree());
            Tally.is("a page with the value 1", 31, Look.story("Mw00001").mostFree());
            Tally.is("a big group with three zeros", 31, Look.story("Mew00001").mostFree());
            Tally.is("a shared one", 31, Look.story("Mw00000f0").mostFree());
            PageMarriages[] all = {Scenes.usual(), Scenes.crosswise(), Scenes.four(),
                Scenes.lone(), Scenes.oneFree()};
            for (PageMarriages m : all) {
                Tally.is(m.mostFree(), m.press(32));
            }
        });
        e.holds(CHANGE_NOTHING, () -> {
            Unchanged.by(Scenes::usual, m -> m.mostFree());
            Unchanged.by(() -> Look.story("Mew00000w00400f0w10001"), m -> m.mostFree());
        });
    }

    // ---- promise 22

    private static void writable(Edges e) {
        e.holds("Throws IndexOutOfBoundsException if there is no such process", () -> {
            Unchanged.outOfBounds(Scenes::usual, m -> m.writable(-1), m -> m.writable(2),
                m -> m.writable(3), m -> m.writable(4), m -> m.writable(32),
                m -> m.writable(Integer.MIN_VALUE), m -> m.writable(Integer.MAX_VALUE));
            Unchanged.outOfBounds(Scenes::four, m -> m.writable(4), m -> m.writable(-1));
        });
        e.holds("p: process", () -> {
            Tally.is(16, Scenes.four().writable(0));
            Tally.is(16, Scenes.four().writable(3));
        });
        e.holds("until it is not possible (each with the value 1; 16 if all can be)",
            QuestionEdgeTests::howManyPages);
        e.holds("no page of its group has a frame, and a run is free",
            QuestionEdgeTests::eagerPages);
        e.holds(CHANGE_NOTHING, () -> {
            Unchanged.by(Scenes::usual, m -> m.writable(0), m -> m.writable(1));
            Unchanged.by(Scenes::crowded, m -> m.writable(0), m -> m.writable(2));
        });
    }

    private static void howManyPages() {
        for (int used = 16; used <= 32; used++) {
            PageMarriages m = Look.story("Mf0");
            Look.fill(m, 0, used);
            m.fork(0);
            Tally.is("as many as there are free frames", 32 - used, m.writable(2));
            Tally.is(32 - used, m.writable(0));
            Tally.is("each has a frame or takes one", 16, m.writable(1));
        }
        PageMarriages none = Scenes.crowded();
        Tally.is("its page 0 is its own, the page 1 is shared", 1, none.writable(2));
        Tally.is(1, none.writable(0));
        Tally.is("all but the last one", 15, none.writable(1));
    }

    private static void eagerPages() {
        PageMarriages m = Look.story("Mf0f0");
        Look.fill(m, 0, 28);
        Tally.is("four single frames", 4, m.writable(2));
        m.setEager(true);
        Tally.is("a run is four pages", 4, m.writable(2));
        m.write(1, 12, 1);
        Tally.is("the last run becomes the process 1's", 0, m.writable(2));
        m.undo();
        m.setEager(false);
        m.write(1, 12, 1);
        m.setEager(true);
        Tally.is("no run, but three frames", 3, m.writable(2));
    }
}
