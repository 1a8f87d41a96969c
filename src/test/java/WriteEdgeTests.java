/** Promise 10 at its edges. */
final class WriteEdgeTests {
    private static final int NONE = PageMarriages.NONE;

    private WriteEdgeTests() {
    }

    static void run(Edges.Book book) {
        Edges e = book.promise(10);
        e.holds("Throws IndexOutOfBoundsException if there is no such process or page",
            WriteEdgeTests::noSuchPage);
        e.holds("Throws IllegalArgumentException if value is out of range",
            WriteEdgeTests::noValue);
        e.holds("Throws IllegalStateException if it is not possible",
            WriteEdgeTests::notPossible);
        e.holds("If several exceptions apply to a call, the one that its description names first"
            + " is thrown.", WriteEdgeTests::severalExceptions);
        e.holds("p: process", WriteEdgeTests::firstAndLastProcess);
        e.holds("v: page", WriteEdgeTests::firstAndLastPage);
        e.holds("value: 0 to 99", WriteEdgeTests::firstAndLastValue);
        e.holds("Returns 0 if it has its frame to itself, 1 if it was a fault, 2 if it was a copy,"
            + " 3 if it was a copy and its group was torn.", WriteEdgeTests::answers);
        e.holds("It is not possible if a single frame is needed, and none is free.",
            WriteEdgeTests::lastFreeFrame);
        e.holds("no page of its group has a frame", WriteEdgeTests::groupWithAFrame);
        e.holds("and a run is free, the group becomes big, in the lowest free run, with the"
            + " values 0; otherwise the page takes a single frame.",
            WriteEdgeTests::lastFreeRun);
        e.holds("in the lowest free run, with the values 0", WriteEdgeTests::oldValuesAreGone);
        e.holds("This is a fault.", WriteEdgeTests::oneFaultForAGroup);
        e.holds("When a single frame is taken, it is the lowest free one of those in runs that"
            + " are not free; if there is none, the lowest free one.",
            WriteEdgeTests::singleFrames);
        e.holds("Otherwise, if its frame is shared: if its group is big, it is torn: it is not big"
            + " any more, though its pages keep their frames.", WriteEdgeTests::tornByAWrite);
        e.holds("Then the page takes a single frame of its own (which is taken before it lets go"
            + " the other one). This is a copy.", WriteEdgeTests::copiesOnce);
        e.holds("The frame of the page has the value.", WriteEdgeTests::onlyItsOwnFrame);
    }

    private static void noSuchPage() {
        Unchanged.outOfBounds(Scenes::usual, m -> m.write(-1, 0, 0), m -> m.write(2, 0, 0),
            m -> m.write(4, 0, 0), m -> m.write(0, -1, 0), m -> m.write(1, 16, 0),
            m -> m.write(Integer.MIN_VALUE, 0, 0), m -> m.write(Integer.MAX_VALUE, 0, 0),
            m -> m.write(0, Integer.MIN_VALUE, 0), m -> m.write(0, Integer.MAX_VALUE, 0),
            m -> m.write(32, 0, 0));
        Unchanged.outOfBounds(Scenes::four, m -> m.write(4, 0, 0), m -> m.write(-1, 0, 0),
            m -> m.write(3, 16, 0), m -> m.write(0, -1, 0));
    }

    private static void noValue() {
        Unchanged.illegalArgument(Scenes::usual, m -> m.write(0, 0, -1), m -> m.write(0, 0, 100),
            m -> m.write(0, 9, -1), m -> m.write(1, 0, 100), m -> m.write(1, 15, 100),
            m -> m.write(0, 0, Integer.MIN_VALUE), m -> m.write(0, 0, Integer.MAX_VALUE));
    }

    private static void notPossible() {
        Unchanged.illegalState(Scenes::crowded, m -> m.write(1, 15, 0), m -> m.write(2, 1, 99),
            m -> m.write(0, 15, 1), m -> m.write(0, 4, 1), m -> m.write(2, 7, 1));
    }

    private static void severalExceptions() {
        Unchanged.outOfBounds(Scenes::crowded, m -> m.write(3, 0, 100), m -> m.write(3, 0, 0),
            m -> m.write(-1, 0, -1), m -> m.write(2, 16, 100), m -> m.write(2, -1, 0));
        Unchanged.illegalArgument(Scenes::crowded, m -> m.write(1, 15, 100),
            m -> m.write(2, 1, -1), m -> m.write(0, 4, 100));
    }

    private static void firstAndLastProcess() {
        PageMarriages m = Scenes.four();
        Tally.is(2, m.write(0, 0, 1));
        Tally.is(2, m.write(3, 0, 2));
        Tally.is(1, m.page(0, 0, 1));
        Tally.is(2, m.page(3, 0, 1));
    }

    private static void firstAndLastPage() {
        PageMarriages m = new PageMarriages();
        Tally.is(1, m.write(0, 0, 1));
        Tally.is(1, m.write(0, 15, 2));
        Tally.is(1, m.page(0, 0, 1));
        Tally.is(2, m.page(0, 15, 1));
        Tally.is(30, m.about(1));
    }

    private static void firstAndLastValue() {
        PageMarriages m = new PageMarriages();
        Tally.is("a fault", 1, m.write(0, 0, 99));
        Tally.is(99, m.page(0, 0, 1));
        Tally.is("its own frame", 0, m.write(0, 0, 0));
        Tally.is(0, m.page(0, 0, 1));
        m.fork(0);
        Tally.is("a copy", 2, m.write(1, 0, 99));
        Tally.is(99, m.page(1, 0, 1));
        Tally.is(0, m.page(0, 0, 1));
    }

    private static void answers() {
        PageMarriages m = Look.story("Mew00000");
        m.setEager(false);
        Tally.is(1, m.write(0, 4, 1));
        m.fork(0);
        Tally.is(2, m.write(1, 4, 1));
        Tally.is(3, m.write(1, 0, 1));
        Tally.is("the group is torn already", 2, m.write(1, 1, 1));
        Tally.is("a copy has its frame to itself", 0, m.write(1, 0, 2));
        Tally.is("and so has what was copied", 0, m.write(0, 0, 2));
        Tally.is("big still, but in its own frame", 1, m.group(0, 0, 1));
    }

    private static void lastFreeFrame() {
        Tally.is("a fault takes the last", 1, Scenes.oneFree().write(1, 15, 1));
        Tally.is("a copy takes the last", 2, Scenes.oneFree().write(2, 0, 1));
        Tally.is("a big group is torn for the last", 3, Scenes.oneFree().write(2, 4, 1));
        PageMarriages m = Scenes.crowded();
        Tally.illegalState(() -> m.write(2, 4, 1));
        Tally.is("it is not torn", 1, m.group(2, 1, 1));
        Tally.is("none is needed", 0, m.write(2, 0, 6));
        Tally.is("none is needed", 0, m.write(0, 0, 6));
        Tally.is("none is needed", 0, m.write(1, 14, 6));
        Tally.illegalState(() -> m.write(1, 15, 6));
        m.write(1, 14, 0);
        Tally.is(1, m.press(1));
        Tally.is("one is free again", 1, m.write(1, 15, 6));
        Tally.is(0, m.about(1));
    }

    /** In eager memory, a page of the last group, whose page "other" has a frame. */
    private static void groupWithAFrame() {
        for (int other = 12; other < 16; other++) {
            PageMarriages m = new PageMarriages();
            m.write(0, other, 5);
            m.setEager(true);
            int v = other == 12 ? 15 : 12;
            Tally.is(1, m.write(0, v, 6));
            Tally.is("a single frame", 1, m.page(0, v, 0));
            Tally.is(0, m.group(0, 3, 1));
            Tally.is(2, m.group(0, 3, 0));
            Tally.is("the group beside it has none", 1, m.write(0, 11, 6));
            Tally.is(1, m.group(0, 2, 4));
        }
    }

    private static void lastFreeRun() {
        PageMarriages last = Look.story("Mf0");
        Look.fill(last, 0, 28);
        last.setEager(true);
        Tally.is("one run is free", 1, last.write(1, 13, 5));
        Tally.is("the run 7", 7, last.group(1, 3, 4));
        for (int v = 12; v < 16; v++) {
            Tally.is(v == 13 ? 5 : 0, last.page(1, v, 1));
        }
        PageMarriages none = Look.story("Mf0f0");
        Look.fill(none, 0, 29);
        none.setEager(true);
        Tally.is("three frames are free, but no run", 1, none.write(2, 15, 9));
        Tally.is(29, none.page(2, 15, 0));
        Tally.is(0, none.group(2, 3, 1));
        Tally.is(1, none.group(2, 3, 0));
        PageMarriages lowest = Look.story("Mew00001w00401");
        Tally.is(1, lowest.write(0, 12, 1));
        Tally.is("the lowest of six", 2, lowest.group(0, 3, 4));
        PageMarriages not = new PageMarriages();
        Tally.is("the memory is not eager", 1, not.write(0, 0, 1));
        Tally.is(31, not.about(1));
    }

    private static void oldValuesAreGone() {
        PageMarriages m = Look.story("Mf0w00099w00199w00299w00399x0e");
        Tally.is(1, m.write(1, 2, 0));
        Tally.is("the run of the process 0", 0, m.group(1, 0, 4));
        for (int v = 0; v < 4; v++) {
            Tally.is(0, m.page(1, v, 1));
        }
    }

    private static void oneFaultForAGroup() {
        PageMarriages m = Look.story("Me");
        Tally.is(1, m.write(0, 0, 0));
        Tally.is(1, m.about(7));
        Tally.is(0, m.write(0, 3, 0));
        Tally.is(1, m.about(7));
        Tally.is("a fault in another group", 1, m.write(0, 4, 0));
        Tally.is(2, m.about(7));
    }

    private static void singleFrames() {
        PageMarriages m = Look.story("Mw00000w00100w00200w00300w00401");
        m.press(31);
        Tally.is("only the frame 4 is used", 4, m.user(4, 0));
        for (int i = 0; i < 3; i++) {
            m.write(0, 8 + i, 1);
            Tally.is("beside it, not the frame 0", 5 + i, m.page(0, 8 + i, 0));
        }
        m.write(0, 11, 1);
        Tally.is("no used run has a free one", 0, m.page(0, 11, 0));
        m.write(0, 12, 1);
        Tally.is(1, m.page(0, 12, 0));
        PageMarriages last = Scenes.oneFree();
        last.write(1, 15, 1);
        Tally.is("the last frame", 31, last.page(1, 15, 0));
        PageMarriages first = Scenes.full();
        first.write(0, 0, 0);
        first.press(1);
        first.write(0, 0, 1);
        Tally.is("the first frame", 0, first.page(0, 0, 0));
        PageMarriages two = Look.story("Mw00001w00100w00201w00301w00400w00501");
        Tally.is("the frames 1 and 4 were lost", 28, two.press(28));
        int[] due = {1, 4, 6, 7, 8};
        for (int i = 0; i < due.length; i++) {
            two.write(0, 8 + i, 1);
            Tally.is("the lowest of those in both runs", due[i], two.page(0, 8 + i, 0));
        }
    }

    private static void tornByAWrite() {
        for (int v = 0; v < 4; v++) {
            PageMarriages m = Look.story("Mew00007f0");
            Tally.is(3, m.write(1, v, 9));
            Tally.is(0, m.group(1, 0, 1));
            Tally.is("the other one stays big", 1, m.group(0, 0, 1));
            for (int other = 0; other < 4; other++) {
                Tally.is(other == v ? 4 : other, m.page(1, other, 0));
                Tally.is(other, m.page(0, other, 0));
            }
            Tally.is(1, m.about(8));
        }
        PageMarriages own = Look.story("Mew00007");
        Tally.is("no frame is shared", 0, own.write(0, 3, 1));
        Tally.is(1, own.group(0, 0, 1));
    }

    private static void copiesOnce() {
        PageMarriages m = Scenes.four();
        for (int p = 0; p < 3; p++) {
            Tally.is("shared with " + (3 - p), 2, m.write(p, 0, 10 + p));
            Tally.is(1 + p, m.page(p, 0, 0));
            Tally.is(1 + p, m.about(6));
        }
        Tally.is("the last one keeps the frame", 0, m.write(3, 0, 13));
        Tally.is(0, m.page(3, 0, 0));
        Tally.is(3, m.about(6));
        Tally.is(28, m.about(1));
    }

    private static void onlyItsOwnFrame() {
        PageMarriages m = Scenes.four();
        m.write(2, 0, 99);
        Tally.is(3, m.page(0, 0, 1));
        Tally.is(3, m.page(1, 0, 1));
        Tally.is(99, m.page(2, 0, 1));
        Tally.is(3, m.page(3, 0, 1));
        Tally.is(NONE, m.page(2, 1, 1));
    }
}
