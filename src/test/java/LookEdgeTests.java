/** Promises 6 to 9 at their edges. */
final class LookEdgeTests {
    private static final int NONE = PageMarriages.NONE;

    private LookEdgeTests() {
    }

    static void run(Edges.Book book) {
        about(book.promise(6));
        page(book.promise(7));
        user(book.promise(8));
        group(book.promise(9));
    }

    // ---- promise 6

    private static void about(Edges e) {
        e.holds("Throws IllegalArgumentException if what is not 0 to 10",
            LookEdgeTests::noSuchNumberOfMemory);
        e.holds("0: the processes, bit p set for the process p", LookEdgeTests::processBits);
        e.holds("1: the number of free frames", LookEdgeTests::freeFrames);
        e.holds("2: of free runs", LookEdgeTests::freeRuns);
        e.holds("a run is free if all its frames are", LookEdgeTests::runsWithAFreeFrame);
        e.holds("3: of big groups", LookEdgeTests::bigGroups);
        e.holds("4: of widows", LookEdgeTests::widows);
        e.holds("5: of shared frames", LookEdgeTests::sharedFrames);
        e.holds("A frame is shared if more than one page uses it.", LookEdgeTests::twoUsersShare);
        e.holds("6: of copies so far", LookEdgeTests::copies);
        e.holds("7: of faults so far", LookEdgeTests::faults);
        e.holds("8: of tears so far (by writes, by pressure, by tear())", LookEdgeTests::tears);
        e.holds("9: of pages that lost their frames under pressure so far",
            LookEdgeTests::losses);
        e.holds("10: 1 if the memory is eager, otherwise 0", LookEdgeTests::eager);
    }

    private static void noSuchNumberOfMemory() {
        Unchanged.illegalArgument(Scenes::usual, m -> m.about(-1), m -> m.about(11),
            m -> m.about(Integer.MIN_VALUE), m -> m.about(Integer.MAX_VALUE));
        PageMarriages m = Scenes.usual();
        Tally.is("the first of the range", 3, m.about(0));
        Tally.is("the last of the range", 0, m.about(10));
    }

    private static void processBits() {
        Tally.is("a single process", 1, new PageMarriages().about(0));
        Tally.is("four", 15, Scenes.four().about(0));
        PageMarriages m = Scenes.four();
        m.exit(0);
        Tally.is(14, m.about(0));
        m.exit(1);
        m.exit(2);
        Tally.is("the last number alone", 8, m.about(0));
    }

    private static void freeFrames() {
        Tally.is("none is used", 32, new PageMarriages().about(1));
        Tally.is("one is free", 1, Scenes.oneFree().about(1));
        Tally.is("none is free", 0, Scenes.crowded().about(1));
    }

    private static void freeRuns() {
        PageMarriages m = Look.story("Mf0");
        Tally.is(8, m.about(2));
        for (int i = 0; i < 32; i++) {
            Look.fill(m, i, i + 1);
            Tally.is("with the frame " + i, 7 - i / 4, m.about(2));
        }
    }

    private static void runsWithAFreeFrame() {
        for (int used = 0; used < 4; used++) {
            PageMarriages m = new PageMarriages();
            for (int v = 0; v < 4; v++) {
                m.write(0, v, v == used ? 1 : 0);
            }
            Tally.is(7, m.about(2));
            Tally.is("the frame " + used + " is left", 31, m.press(31));
            Tally.is(7, m.about(2));
            m.write(0, used, 0);
            m.press(32);
            Tally.is("all four are free", 8, m.about(2));
        }
    }

    /** All four groups of the process 0 are big. */
    private static PageMarriages eagerProcess() {
        return Look.story("Mew00000w00400w00800w01200");
    }

    private static void bigGroups() {
        PageMarriages m = eagerProcess();
        Tally.is(4, m.about(3));
        m.fork(0);
        m.fork(0);
        m.fork(0);
        Tally.is("all that there can be", 16, m.about(3));
        m.exit(0);
        Tally.is("those of a process that ended are none", 12, m.about(3));
        Tally.is(0, new PageMarriages().about(3));
    }

    private static void widows() {
        PageMarriages m = Look.story("Mf0ew00000w00400w00800w01200w10000w10400w10800w11200f0f1");
        Tally.is("each run has two big groups", 0, m.about(4));
        for (int i = 0; i < 8; i++) {
            Tally.is(i, m.about(4));
            m.tear(2 + i / 4, i % 4);
        }
        Tally.is("all eight runs have a widow", 8, m.about(4));
        m.exit(2);
        Tally.is("four of them have no shared frame", 4, m.about(4));
        m.tear(1, 0);
        Tally.is("a torn group is none", 3, m.about(4));
    }

    private static void sharedFrames() {
        PageMarriages m = Scenes.full();
        Tally.is(0, m.about(5));
        m.fork(0);
        Tally.is(16, m.about(5));
        m.fork(1);
        Tally.is("all frames", 32, m.about(5));
    }

    private static void twoUsersShare() {
        PageMarriages m = Look.story("Mw00001");
        Tally.is("one user", 0, m.about(5));
        m.fork(0);
        Tally.is("two", 1, m.about(5));
        m.fork(0);
        m.fork(0);
        Tally.is("four", 1, m.about(5));
        m.exit(3);
        m.exit(1);
        Tally.is("two", 1, m.about(5));
        m.exit(0);
        Tally.is("one", 0, m.about(5));
    }

    private static void copies() {
        PageMarriages m = Look.story("Mw00001w00101w00201w00301");
        m.marry(0, 0);
        Tally.is("in place", 0, m.about(6));
        m.fork(0);
        m.write(0, 0, 1);
        Tally.is("a write to a shared frame", 1, m.about(6));
        m.write(0, 0, 1);
        Tally.is("a write to a frame of its own", 1, m.about(6));
        m.write(0, 4, 1);
        Tally.is("a fault", 1, m.about(6));
        m.exit(1);
        m.marry(0, 0);
        Tally.is("elsewhere", 5, m.about(6));
    }

    private static void faults() {
        PageMarriages m = Look.story("Mw00001e");
        Tally.is(1, m.about(7));
        m.write(0, 0, 2);
        Tally.is("it has a frame", 1, m.about(7));
        m.write(0, 7, 2);
        Tally.is("a big group is one fault", 2, m.about(7));
        m.write(0, 6, 2);
        Tally.is("it has a frame", 2, m.about(7));
        m.fork(0);
        m.write(1, 0, 2);
        Tally.is("a copy is none", 2, m.about(7));
    }

    private static void tears() {
        PageMarriages m = Look.story("Mew00000w00401w00801f0");
        Tally.is(0, m.about(8));
        m.write(1, 0, 1);
        Tally.is("by a write", 1, m.about(8));
        m.tear(1, 1);
        Tally.is("by tear", 2, m.about(8));
        m.exit(1);
        Tally.is("a process that ends tears nothing", 2, m.about(8));
        m.press(21);
        Tally.is("by pressure", 3, m.about(8));
        m.undo();
        Tally.is("taken back", 2, m.about(8));
    }

    private static void losses() {
        PageMarriages m = Look.story("Mw00000w00101");
        Tally.is(0, m.about(9));
        m.press(30);
        Tally.is("enough are free", 0, m.about(9));
        m.press(31);
        Tally.is(1, m.about(9));
        m.press(32);
        Tally.is("no more can be taken", 1, m.about(9));
        m.fork(0);
        m.exit(0);
        Tally.is("an end is no pressure", 1, m.about(9));
        PageMarriages all = Look.story("Mf0");
        for (int i = 0; i < 32; i++) {
            all.write(i / 16, i % 16, 0);
        }
        all.press(32);
        Tally.is("all frames", 32, all.about(9));
    }

    private static void eager() {
        PageMarriages m = new PageMarriages();
        Tally.is(0, m.about(10));
        m.setEager(true);
        Tally.is(1, m.about(10));
        m.setEager(false);
        Tally.is(0, m.about(10));
        Tally.is(1, Look.story("Me").about(10));
    }

    // ---- promise 7

    private static void page(Edges e) {
        e.holds("Throws IndexOutOfBoundsException if there is no such process or page",
            LookEdgeTests::noSuchPage);
        e.holds("Throws IllegalArgumentException if what is not 0 to 3",
            LookEdgeTests::noSuchNumberOfPage);
        e.holds("If several exceptions apply to a call, the one that its description names first"
            + " is thrown.", () -> Unchanged.outOfBounds(Scenes::usual, m -> m.page(-1, 0, -1),
                m -> m.page(0, 16, 4), m -> m.page(2, 0, 4), m -> m.page(4, 16, 4)));
        e.holds("p: process", LookEdgeTests::firstAndLastProcess);
        e.holds("v: page", LookEdgeTests::firstAndLastPage);
        e.holds("what: 0: its frame; 1: the value of that; 2: how many pages use that frame;"
            + " 3: 1 if its group is big, otherwise 0", LookEdgeTests::numbersOfPages);
        e.holds("for 0 to 2 NONE if it has no frame", LookEdgeTests::pageWithoutFrame);
        e.holds("A frame is free, or has a value (0 to 99) and is used by one or more pages.",
            LookEdgeTests::firstAndLastValue);
        e.holds("A group is big or not; if it is big, its pages have the frames of one run, in"
            + " their order.", LookEdgeTests::framesOfBigGroups);
    }

    private static void noSuchPage() {
        Unchanged.outOfBounds(Scenes::usual, m -> m.page(-1, 0, 0), m -> m.page(2, 0, 0),
            m -> m.page(4, 0, 0), m -> m.page(0, -1, 0), m -> m.page(1, 16, 0),
            m -> m.page(Integer.MIN_VALUE, 0, 0), m -> m.page(Integer.MAX_VALUE, 0, 0),
            m -> m.page(0, Integer.MIN_VALUE, 0), m -> m.page(0, Integer.MAX_VALUE, 0),
            m -> m.page(32, 0, 0));
        Unchanged.outOfBounds(Scenes::four, m -> m.page(4, 0, 0), m -> m.page(-1, 0, 0),
            m -> m.page(3, 16, 0));
    }

    private static void noSuchNumberOfPage() {
        Unchanged.illegalArgument(Scenes::usual, m -> m.page(0, 0, -1), m -> m.page(1, 15, 4),
            m -> m.page(0, 0, Integer.MIN_VALUE), m -> m.page(0, 0, Integer.MAX_VALUE));
    }

    private static void firstAndLastProcess() {
        PageMarriages m = Scenes.four();
        Tally.is(3, m.page(0, 0, 1));
        Tally.is(3, m.page(3, 0, 1));
    }

    private static void firstAndLastPage() {
        PageMarriages m = Look.story("Mw00011w01522");
        Tally.is(11, m.page(0, 0, 1));
        Tally.is(22, m.page(0, 15, 1));
        Tally.is(NONE, m.page(0, 1, 1));
        Tally.is(NONE, m.page(0, 14, 1));
    }

    private static void numbersOfPages() {
        PageMarriages m = Scenes.crowded();
        Tally.is("the first frame", 0, m.page(0, 0, 0));
        Tally.is("the last frame", 31, m.page(2, 0, 0));
        Tally.is(5, m.page(2, 0, 1));
        Tally.is("one user", 1, m.page(2, 0, 2));
        Tally.is("two", 2, m.page(2, 1, 2));
        Tally.is("four", 4, Scenes.four().page(3, 0, 2));
        Tally.is("the page ahead of the big group", 0, m.page(0, 3, 3));
        Tally.is("its first one", 1, m.page(0, 4, 3));
        Tally.is("its last one", 1, m.page(0, 7, 3));
        Tally.is("the page behind it", 0, m.page(0, 8, 3));
    }

    private static void pageWithoutFrame() {
        PageMarriages m = Scenes.crowded();
        for (int what = 0; what < 3; what++) {
            Tally.is(NONE, m.page(1, 15, what));
        }
        Tally.is(0, m.page(1, 15, 3));
    }

    private static void firstAndLastValue() {
        PageMarriages m = Look.story("Mw00000w00199");
        Tally.is(0, m.page(0, 0, 1));
        Tally.is(99, m.page(0, 1, 1));
        m.write(0, 0, 99);
        m.write(0, 1, 0);
        Tally.is(99, m.page(0, 0, 1));
        Tally.is(0, m.page(0, 1, 1));
    }

    private static void framesOfBigGroups() {
        PageMarriages m = Look.story("Mf0ew00000w00400w00800w01200w10000w10400w10800w11200");
        for (int i = 0; i < 32; i++) {
            Tally.is(i, m.page(i / 16, i % 16, 0));
            Tally.is(1, m.page(i / 16, i % 16, 3));
        }
    }

    // ---- promise 8

    private static void user(Edges e) {
        e.holds("Throws IndexOutOfBoundsException if there is no such frame",
            LookEdgeTests::noSuchFrame);
        e.holds("Throws IllegalArgumentException if i is negative", () ->
            Unchanged.illegalArgument(Scenes::usual, m -> m.user(0, -1), m -> m.user(31, -1),
                m -> m.user(8, Integer.MIN_VALUE)));
        e.holds("If several exceptions apply to a call, the one that its description names first"
            + " is thrown.", () -> Unchanged.outOfBounds(Scenes::usual, m -> m.user(-1, -1),
                m -> m.user(32, -1), m -> m.user(32, Integer.MIN_VALUE)));
        e.holds("f: frame", LookEdgeTests::firstAndLastFrame);
        e.holds("i: 0 or more", LookEdgeTests::placesOfUsers);
        e.holds("NONE if there are not so many.", LookEdgeTests::notSoManyUsers);
        e.holds("among those that use the frame, by processes, then by pages",
            LookEdgeTests::usersInOrder);
    }

    private static void noSuchFrame() {
        Unchanged.outOfBounds(Scenes::usual, m -> m.user(-1, 0), m -> m.user(32, 0),
            m -> m.user(Integer.MIN_VALUE, 0), m -> m.user(Integer.MAX_VALUE, 0));
    }

    private static void firstAndLastFrame() {
        PageMarriages m = Scenes.crowded();
        Tally.is(0, m.user(0, 0));
        Tally.is(200, m.user(31, 0));
        Tally.is(114, m.user(30, 0));
    }

    private static void placesOfUsers() {
        PageMarriages m = Scenes.four();
        Tally.is(0, m.user(0, 0));
        Tally.is("the last place", 300, m.user(0, 3));
        Tally.is("one more", NONE, m.user(0, 4));
        Tally.is(NONE, m.user(0, Integer.MAX_VALUE));
    }

    private static void notSoManyUsers() {
        PageMarriages m = Look.story("Mw00401");
        Tally.is(4, m.user(0, 0));
        Tally.is("one user", NONE, m.user(0, 1));
        Tally.is("a free frame", NONE, m.user(1, 0));
        Tally.is("a free frame", NONE, m.user(31, 0));
        m.fork(0);
        Tally.is(104, m.user(0, 1));
        Tally.is("two", NONE, m.user(0, 2));
    }

    private static void usersInOrder() {
        PageMarriages m = Look.story("Mw01501f0f0f0");
        for (int p = 0; p < 4; p++) {
            Tally.is("the last page of the process " + p, 100 * p + 15, m.user(0, p));
        }
        m.exit(0);
        m.fork(3);
        Tally.is("the new process 0 comes first", 15, m.user(0, 0));
        m.exit(1);
        Tally.is(215, m.user(0, 1));
        Tally.is(NONE, m.user(0, 3));
    }

    // ---- promise 9

    private static void group(Edges e) {
        e.holds("Throws IndexOutOfBoundsException if there is no such process or group",
            LookEdgeTests::noSuchGroup);
        e.holds("Throws IllegalArgumentException if what is not 0 to 4", () ->
            Unchanged.illegalArgument(Scenes::usual, m -> m.group(0, 0, -1),
                m -> m.group(1, 3, 5), m -> m.group(0, 0, Integer.MIN_VALUE),
                m -> m.group(0, 0, Integer.MAX_VALUE)));
        e.holds("If several exceptions apply to a call, the one that its description names first"
            + " is thrown.", () -> Unchanged.outOfBounds(Scenes::usual, m -> m.group(-1, 0, -1),
                m -> m.group(0, 4, 5), m -> m.group(2, 0, 5), m -> m.group(0, -1, -1)));
        e.holds("p: process", () -> {
            Tally.is(1, Scenes.four().group(0, 0, 0));
            Tally.is(1, Scenes.four().group(3, 0, 0));
        });
        e.holds("g: group", LookEdgeTests::firstAndLastGroup);
        e.holds("its group g, from 0 to 3, is the four pages from 4 * g to 4 * g + 3",
            LookEdgeTests::pagesOfGroups);
        e.holds("what: 0: how many of its pages have frames", LookEdgeTests::pagesWithFrames);
        e.holds("3: how many of its pages have shared frames", LookEdgeTests::sharedPages);
        e.holds("its run (NONE if it is not big)", LookEdgeTests::runs);
        e.holds("The run k, from 0 to 7, is the four frames from 4 * k to 4 * k + 3",
            LookEdgeTests::framesOfRuns);
        e.holds("A big group is a widow if at least one of its frames is shared, but it is the"
            + " only big group with this run.", LookEdgeTests::widow);
    }

    private static void noSuchGroup() {
        Unchanged.outOfBounds(Scenes::usual, m -> m.group(-1, 0, 0), m -> m.group(2, 0, 0),
            m -> m.group(4, 0, 0), m -> m.group(0, -1, 0), m -> m.group(1, 4, 0),
            m -> m.group(Integer.MIN_VALUE, 0, 0), m -> m.group(Integer.MAX_VALUE, 0, 0),
            m -> m.group(0, Integer.MIN_VALUE, 0), m -> m.group(0, Integer.MAX_VALUE, 0));
        Unchanged.outOfBounds(Scenes::four, m -> m.group(4, 0, 0), m -> m.group(-1, 0, 0),
            m -> m.group(3, 4, 0));
    }

    private static void firstAndLastGroup() {
        PageMarriages m = Look.story("Mew00001w01201");
        Tally.is(1, m.group(0, 0, 1));
        Tally.is(0, m.group(0, 1, 1));
        Tally.is(0, m.group(0, 2, 1));
        Tally.is(1, m.group(0, 3, 1));
    }

    private static void pagesOfGroups() {
        for (int v = 0; v < 16; v++) {
            PageMarriages m = new PageMarriages();
            m.write(0, v, 1);
            for (int g = 0; g < 4; g++) {
                Tally.is("page " + v, v >= 4 * g && v <= 4 * g + 3 ? 1 : 0, m.group(0, g, 0));
            }
            m.fork(0);
            for (int g = 0; g < 4; g++) {
                Tally.is("page " + v, v >= 4 * g && v <= 4 * g + 3 ? 1 : 0, m.group(0, g, 3));
                Tally.is("page " + v, v >= 4 * g && v <= 4 * g + 3 ? 1 : 0, m.group(1, g, 3));
            }
        }
    }

    private static void pagesWithFrames() {
        PageMarriages m = new PageMarriages();
        for (int i = 0; i < 4; i++) {
            Tally.is(i, m.group(0, 3, 0));
            m.write(0, 15 - i, 1);
        }
        Tally.is(4, m.group(0, 3, 0));
    }

    private static void sharedPages() {
        PageMarriages m = Look.story("Mw00001w00101w00201w00301");
        Tally.is(0, m.group(0, 0, 3));
        m.fork(0);
        for (int i = 4; i > 0; i--) {
            Tally.is(i, m.group(0, 0, 3));
            Tally.is(i, m.group(1, 0, 3));
            m.write(1, 4 - i, 1);
        }
        Tally.is(0, m.group(0, 0, 3));
        Tally.is(0, m.group(1, 0, 3));
    }

    private static void runs() {
        PageMarriages m = Look.story("Mf0ew00000w00400w00800w01200w10000w10400w10800w11200");
        Tally.is("the first run", 0, m.group(0, 0, 4));
        Tally.is("the last run", 7, m.group(1, 3, 4));
        m.tear(0, 0);
        m.tear(1, 3);
        Tally.is("torn", NONE, m.group(0, 0, 4));
        Tally.is("torn", NONE, m.group(1, 3, 4));
        Tally.is("no frames", NONE, new PageMarriages().group(0, 0, 4));
    }

    private static void framesOfRuns() {
        PageMarriages m = Look.story("Mf0");
        Look.fill(m, 0, 32);
        for (int i = 0; i < 8; i++) {
            m.marry(i / 4, i % 4);
            Tally.is(i, m.group(i / 4, i % 4, 4));
            Tally.is(4 * i, m.page(i / 4, i % 4 * 4, 0));
            Tally.is(4 * i + 3, m.page(i / 4, i % 4 * 4 + 3, 0));
        }
    }

    private static void widow() {
        PageMarriages m = Look.story("Mew00001");
        Tally.is("none of its frames is shared", 0, m.group(0, 0, 2));
        m.fork(0);
        Tally.is("two big groups with the run", 0, m.group(0, 0, 2));
        Tally.is("two big groups with the run", 0, m.group(1, 0, 2));
        m.tear(1, 0);
        Tally.is("the only one, and all four are shared", 1, m.group(0, 0, 2));
        Tally.is("torn", 0, m.group(1, 0, 2));
        m.write(1, 0, 1);
        m.write(1, 1, 1);
        m.write(1, 2, 1);
        Tally.is("one frame is shared", 1, m.group(0, 0, 2));
        m.write(1, 3, 1);
        Tally.is("none is shared", 0, m.group(0, 0, 2));
    }
}
