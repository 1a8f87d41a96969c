/** Promises 15 to 17 at their edges. */
final class PressEdgeTests {
    private PressEdgeTests() {
    }

    static void run(Edges.Book book) {
        press(book.promise(15));
        setEager(book.promise(16));
        undo(book.promise(17));
    }

    // ---- promise 15

    private static void press(Edges e) {
        e.holds("Throws IllegalArgumentException if n is out of range", () ->
            Unchanged.illegalArgument(Scenes::usual, m -> m.press(0), m -> m.press(33),
                m -> m.press(-1), m -> m.press(Integer.MIN_VALUE),
                m -> m.press(Integer.MAX_VALUE)));
        e.holds("n: 1 to 32: how many frames should be free", PressEdgeTests::firstAndLastNumber);
        e.holds("Returns the number of free frames then.", PressEdgeTests::freeFrames);
        e.holds("as long as fewer than n frames are free", PressEdgeTests::justEnough);
        e.holds("the first page, by processes, then by pages, that is in no big group, whose frame"
            + " is not shared and has the value 0, loses its frame",
            PressEdgeTests::pagesThatLose);
        e.holds("of the big groups none of whose frames is shared the one with the most frames"
            + " that have the value 0 (at least one)", PressEdgeTests::groupsThatAreTorn);
        e.holds("among several that of the lowest process, then the lowest group, is torn, and it"
            + " goes on so", PressEdgeTests::lowestOfSeveral);
        e.holds("if there is no such group either, it ends", PressEdgeTests::ends);
    }

    /** The processes 0 and 1 have 16 pages each, all of this value; no frame is free. */
    private static PageMarriages filledWith(int value, boolean eager) {
        PageMarriages m = Look.story("Mf0");
        m.setEager(eager);
        for (int i = 0; i < 32; i++) {
            m.write(i / 16, i % 16, value);
        }
        return m;
    }

    private static void firstAndLastNumber() {
        Tally.is(1, filledWith(0, false).press(1));
        Tally.is(32, filledWith(0, false).press(32));
        Tally.is(31, filledWith(0, false).press(31));
        Tally.is("a big group gives one", 1, filledWith(0, true).press(1));
        PageMarriages all = filledWith(0, true);
        Tally.is("the big groups give all", 32, all.press(32));
        Tally.is(8, all.about(8));
        Tally.is(32, all.about(9));
    }

    private static void freeFrames() {
        Tally.is("more than asked for", 32, new PageMarriages().press(1));
        Tally.is(32, new PageMarriages().press(32));
        Tally.is("none can be had", 0, filledWith(1, false).press(32));
        Tally.is("as many as asked for", 19, Scenes.usual().press(19));
    }

    private static void justEnough() {
        PageMarriages m = Look.story("Mw00000w00100");
        Tally.is("just enough are free", 30, m.press(30));
        Tally.is(0, m.about(9));
        Tally.is("one fewer is free", 31, m.press(31));
        Tally.is(1, m.about(9));
        Tally.is(-1, m.page(0, 0, 0));
        Tally.is(0, m.page(0, 1, 1));
        PageMarriages big = Look.story("Mew00000");
        Tally.is(28, big.press(28));
        Tally.is("not torn", 1, big.group(0, 0, 1));
        Tally.is(29, big.press(29));
        Tally.is(3, big.group(0, 0, 0));
        Tally.is("its first page lost its frame", -1, big.page(0, 0, 0));
    }

    private static void pagesThatLose() {
        PageMarriages m = Look.story("Mf0w01500w10000w00001w01400");
        m.press(30);
        Tally.is("the first by processes", -1, m.page(0, 14, 0));
        Tally.is("the first by processes", -1, m.page(0, 15, 0));
        Tally.is("the process 1 comes later", 0, m.page(1, 0, 1));
        Tally.is("the value 1 stays", 31, m.press(32));
        Tally.is(1, m.page(0, 0, 1));
        PageMarriages shared = Look.story("Mw00000f0");
        Tally.is("a shared frame stays", 31, shared.press(32));
        shared.exit(0);
        Tally.is("it has one user", 32, shared.press(32));
        PageMarriages big = Look.story("Mw00400ew00000");
        big.press(28);
        Tally.is("the later page is in no big group", -1, big.page(0, 4, 0));
        Tally.is(1, big.group(0, 0, 1));
        Tally.is(0, big.about(8));
    }

    private static void groupsThatAreTorn() {
        for (int zeros = 0; zeros <= 4; zeros++) {
            PageMarriages m = Look.story("Mew00000");
            for (int v = zeros; v < 4; v++) {
                m.write(0, v, 99);
            }
            Tally.is(28 + zeros, m.press(32));
            Tally.is("at least one", zeros == 0 ? 1 : 0, m.group(0, 0, 1));
            Tally.is(zeros == 0 ? 0 : 1, m.about(8));
        }
        PageMarriages shared = Look.story("Mew00000f0w10001w10101w10201");
        Tally.is("one of its frames is shared", 25, shared.press(32));
        Tally.is(1, shared.group(0, 0, 1));
        shared.write(1, 3, 1);
        Tally.is("none is shared", 28, shared.press(32));
        Tally.is(0, shared.group(0, 0, 1));
        PageMarriages last = Look.story("Mf0f0f0ew31501");
        Tally.is("the last group of the last process", 31, last.press(32));
        Tally.is(0, last.group(3, 3, 1));
        PageMarriages most = Look.story("Mf0ew00001w10000");
        most.press(25);
        Tally.is("three zeros are fewer than four", 1, most.group(0, 0, 1));
        Tally.is(0, most.group(1, 0, 1));
    }

    private static void lowestOfSeveral() {
        PageMarriages m = filledWith(0, true);
        for (int i = 0; i < 8; i++) {
            Tally.is(1, m.group(i / 4, i % 4, 1));
            Tally.is("one frame of the next group", 4 * i + 1, m.press(4 * i + 1));
            Tally.is(0, m.group(i / 4, i % 4, 1));
            Tally.is(i + 1, m.about(8));
            Tally.is("the others of it", 4 * i + 4, m.press(4 * i + 4));
            Tally.is(i + 1, m.about(8));
        }
    }

    private static void ends() {
        PageMarriages m = filledWith(1, true);
        m.write(1, 15, 0);
        Tally.is("one zero in all", 1, m.press(32));
        Tally.is("what is left are eight groups, one of them torn", 7, m.about(3));
        Tally.is(1, m.about(8));
        Tally.is(1, m.about(9));
        Tally.is("nothing more", 1, m.press(32));
        Tally.is(1, m.about(8));
        Tally.is("no page has a frame", 32, new PageMarriages().press(32));
    }

    // ---- promise 16

    private static void setEager(Edges e) {
        e.holds("Returns the number of free runs.", () -> {
            Tally.is(8, new PageMarriages().setEager(true));
            Tally.is(8, new PageMarriages().setEager(false));
            Tally.is(1, Scenes.crosswise().setEager(true));
            Tally.is("no run is free", 0, Scenes.full().setEager(true));
            Tally.is("frames are free, but no run", 0, Scenes.oneFree().setEager(false));
        });
        e.holds("Makes the memory eager, or not.", () -> {
            PageMarriages m = new PageMarriages();
            m.setEager(true);
            m.setEager(true);
            Tally.is(1, m.about(10));
            m.write(0, 0, 1);
            m.setEager(false);
            Tally.is(0, m.about(10));
            m.write(0, 4, 1);
            Tally.is(1, m.about(3));
            Tally.is(27, m.about(1));
        });
    }

    // ---- promise 17

    private static void undo(Edges e) {
        e.holds("Throws IllegalStateException if none is remembered", () -> {
            Unchanged.illegalState(PageMarriages::new, m -> m.undo());
            Unchanged.illegalState(() -> Look.story("Mew00001f0"), m -> m.undo());
            Unchanged.illegalState(PressEdgeTests::restored, m -> m.undo());
            Unchanged.illegalState(PressEdgeTests::allTakenBack, m -> m.undo());
        });
        e.holds("Returns how many states are still remembered.", () -> {
            PageMarriages m = new PageMarriages();
            m.setEager(true);
            Tally.is("the only one", 0, m.undo());
            PageMarriages most = withActions(14);
            Tally.is("of 14", 13, most.undo());
            PageMarriages more = withActions(15);
            Tally.is("of 15, one was forgotten", 13, more.undo());
        });
        e.holds("At most 14 states are remembered; when one more is remembered, the oldest one is"
            + " forgotten.", PressEdgeTests::atMost14);
        e.holds("Takes back the last action that is remembered.", PressEdgeTests::eachAction);
        e.holds("Each call of one of them that does not throw an exception is an action, also if"
            + " nothing becomes different (undo is none).", PressEdgeTests::whatIsAnAction);
        e.holds("the state, which consists of everything but the text and the save slots",
            PressEdgeTests::textAndSlotsStay);
    }

    private static PageMarriages restored() {
        PageMarriages m = Scenes.usual();
        m.restore(1);
        return m;
    }

    private static PageMarriages allTakenBack() {
        PageMarriages m = withActions(20);
        for (int i = 0; i < 14; i++) {
            m.undo();
        }
        return m;
    }

    /** Has so many actions behind it, which all make the state different. */
    private static PageMarriages withActions(int count) {
        PageMarriages m = new PageMarriages();
        for (int i = 0; i < count; i++) {
            m.write(0, i % 16, i);
        }
        return m;
    }

    private static void atMost14() {
        int[] counts = {1, 2, 13, 14, 15, 16, 27, 28, 29, 30, 43, 57};
        for (int actions : counts) {
            int remembered = Math.min(14, actions);
            for (int depth = 1; depth <= remembered; depth++) {
                PageMarriages m = withActions(actions);
                for (int i = 1; i <= depth; i++) {
                    Tally.is(remembered - i, m.undo());
                }
                Look.same(Look.at(withActions(actions - depth)), m);
                if (depth == remembered) {
                    Tally.illegalState(() -> m.undo());
                    Look.same(Look.at(withActions(actions - depth)), m);
                }
            }
        }
        PageMarriages mixed = withActions(14);
        mixed.undo();
        mixed.undo();
        mixed.setEager(true);
        Tally.is("the place of one that was taken back", 12, mixed.undo());
        Look.same(Look.at(withActions(12)), mixed);
        Tally.is(11, mixed.undo());
        Look.same(Look.at(withActions(11)), mixed);
    }

    private static final Unchanged.Call[] ACTIONS = {
        m -> m.write(0, 0, 9), m -> m.write(1, 0, 8), m -> m.write(1, 8, 7), m -> m.fork(1),
        m -> m.setEager(true), m -> m.write(2, 12, 0), m -> m.tear(2, 3), m -> m.marry(2, 3),
        m -> m.press(32), m -> m.exit(0), m -> m.setEager(false), m -> m.fork(2),
        m -> m.tear(2, 1), m -> m.exit(2)};

    private static PageMarriages afterActions(int count) {
        PageMarriages m = Look.story("Mew00400f0");
        m.setEager(false);
        for (int i = 0; i < count; i++) {
            ACTIONS[i].on(m);
        }
        return m;
    }

    private static void eachAction() {
        for (int count = 1; count <= ACTIONS.length; count++) {
            for (int from = 1; from <= count; from++) {
                PageMarriages m = afterActions(count);
                for (int i = 0; i < from; i++) {
                    m.undo();
                }
                Look.same(Look.at(afterActions(count - from)), m);
            }
        }
    }

    private static void whatIsAnAction() {
        PageMarriages m = new PageMarriages();
        m.setEager(false);
        m.press(1);
        m.press(32);
        Tally.is("nothing became different, three times", 2, m.undo());
        Tally.is("undo is none", 1, m.undo());
        m.write(0, 0, 5);
        m.write(0, 0, 5);
        Tally.is("the same value again", 2, m.undo());
        Tally.illegalArgument(() -> m.press(33));
        Tally.illegalArgument(() -> m.write(0, 0, 100));
        Tally.illegalState(() -> m.exit(0));
        Tally.illegalState(() -> m.marry(0, 0));
        Tally.illegalState(() -> m.tear(0, 0));
        Tally.outOfBounds(() -> m.fork(1));
        Tally.outOfBounds(() -> m.tear(0, 4));
        Tally.is("what throws is none", 1, m.undo());
        Tally.is(0, m.undo());
        Tally.illegalState(() -> m.undo());
    }

    private static void textAndSlotsStay() {
        PageMarriages m = new PageMarriages();
        m.write(0, 0, 1);
        m.append('M');
        m.append('e');
        m.save(0);
        Tally.is(0, m.undo());
        Tally.is(PageMarriages.NONE, m.errorPosition());
        Tally.is(31, m.restore(0));
        Tally.is(2, m.clearText());
    }
}
