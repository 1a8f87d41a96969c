/** Promises 1 to 5 at their edges. */
final class TextEdgeTests {
    private static final int NONE = PageMarriages.NONE;

    private TextEdgeTests() {
    }

    static void run(Edges.Book book) {
        newObject(book.promise(1));
        append(book.promise(2));
        clearText(book.promise(3));
        errorPosition(book.promise(4));
        load(book.promise(5));
    }

    // ---- promise 1

    private static void newObject(Edges e) {
        e.holds("Creates a memory with the process 0.", TextEdgeTests::onlyProcessZero);
        e.holds("In a new object there is the process 0, none of whose pages has a frame.",
            TextEdgeTests::noPageHasFrame);
        e.holds("There are 32 frames, numbered from 0.", TextEdgeTests::allFramesFree);
        e.holds("if the memory is eager (at first it is not)", TextEdgeTests::notEager);
        e.holds("NONE = -1: There is no such result.", () -> Tally.is(-1, NONE));
        e.holds("An object is used for at most 512 calls after it has been made",
            TextEdgeTests::lastCall);
    }

    private static void onlyProcessZero() {
        PageMarriages m = new PageMarriages();
        Tally.is(1, m.about(0));
        Tally.is(16, m.writable(0));
        for (int p : new int[] {-1, 1, 2, 3, 4}) {
            Tally.outOfBounds(() -> m.writable(p));
        }
        Tally.is("the text is empty", 0, m.clearText());
        Tally.illegalState(() -> m.undo());
        Tally.illegalState(() -> m.restore(0));
        Tally.illegalState(() -> m.restore(1));
    }

    private static void noPageHasFrame() {
        PageMarriages m = new PageMarriages();
        for (int v = 0; v < 16; v++) {
            Tally.is(NONE, m.page(0, v, 0));
            Tally.is(NONE, m.page(0, v, 1));
            Tally.is(NONE, m.page(0, v, 2));
        }
        for (int g = 0; g < 4; g++) {
            Tally.is(0, m.group(0, g, 0));
            Tally.is(NONE, m.group(0, g, 4));
        }
    }

    private static void allFramesFree() {
        PageMarriages m = new PageMarriages();
        Tally.is(32, m.about(1));
        Tally.is(8, m.about(2));
        for (int f = 0; f < 32; f++) {
            Tally.is(NONE, m.user(f, 0));
        }
    }

    private static void notEager() {
        PageMarriages m = new PageMarriages();
        Tally.is(0, m.about(10));
        m.write(0, 0, 1);
        Tally.is(31, m.about(1));
        Tally.is(0, m.group(0, 0, 1));
    }

    /** The last of 512 calls is answered as any other. */
    private static void lastCall() {
        PageMarriages m = new PageMarriages();
        m.write(0, 1, 1);
        m.write(0, 0, 1);
        m.write(0, 2, 1);
        m.write(0, 3, 1);
        Tally.is(4, m.marry(0, 0));
        int calls = 5;
        while (calls < 509) {
            m.setEager(calls % 2 == 0);
            calls++;
        }
        Tally.is(13, m.undo());
        Tally.is(12, m.undo());
        Tally.is("the call 512", 11, m.undo());
    }

    // ---- promise 2

    private static void append(Edges e) {
        e.holds("c: character code, 0 to 255", TextEdgeTests::characterCodes);
        e.holds("Returns the new length of the text.", TextEdgeTests::newLengths);
        e.holds("Throws IllegalArgumentException if c is out of range",
            TextEdgeTests::noCharacter);
        e.holds("Throws IllegalStateException if the text already has 100 characters",
            TextEdgeTests::textIsFull);
        e.holds("If several exceptions apply to a call, the one that its description names first"
            + " is thrown.", TextEdgeTests::noCharacterForFullText);
        e.holds("The object has a text buffer of at most 100 characters.",
            TextEdgeTests::keepsAllCharacters);
    }

    private static void characterCodes() {
        PageMarriages m = new PageMarriages();
        Tally.is(1, m.append(0));
        Tally.is(2, m.append(255));
        Tally.illegalArgument(() -> m.append(-1));
        Tally.illegalArgument(() -> m.append(256));
        Tally.is(2, m.clearText());
        Tally.is("a code beyond 255 is not cut to M", 0, m.errorPosition());
    }

    private static void newLengths() {
        PageMarriages m = new PageMarriages();
        for (int length = 1; length <= 100; length++) {
            Tally.is(length, m.append(0));
        }
        m.clearText();
        Tally.is(1, m.append(0));
    }

    private static void noCharacter() {
        Unchanged.illegalArgument(Scenes::usual, m -> m.append(-1), m -> m.append(256),
            m -> m.append(256 + 'e'), m -> m.append(65536 + 'e'), m -> m.append('e' - 256),
            m -> m.append(Integer.MIN_VALUE), m -> m.append(Integer.MAX_VALUE));
    }

    private static void textIsFull() {
        PageMarriages m = new PageMarriages();
        Look.type(m, "M" + "e".repeat(98));
        Tally.is("a text of 99 takes one more", 100, m.append('e'));
        Tally.illegalState(() -> m.append('e'));
        Unchanged.illegalState(Scenes::fullText, x -> x.append('e'), x -> x.append('x'),
            x -> x.append(0), x -> x.append(255));
    }

    private static void noCharacterForFullText() {
        Unchanged.illegalArgument(Scenes::fullText, m -> m.append(-1), m -> m.append(256));
    }

    private static void keepsAllCharacters() {
        PageMarriages m = new PageMarriages();
        Look.type(m, "M" + "e".repeat(99));
        Tally.is(NONE, m.errorPosition());
        Look.type(m, "M" + "e".repeat(98) + "?");
        Tally.is("the last of 100", 99, m.errorPosition());
        Look.type(m, "M" + "w00001".repeat(16) + "x0e");
        Tally.is(NONE, m.errorPosition());
        Tally.is(1, m.load());
        Tally.is("the last of 100", 1, m.about(10));
    }

    // ---- promise 3

    private static void clearText(Edges e) {
        e.holds("Empties the text buffer.", TextEdgeTests::empties);
        e.holds("Returns the previous length of the text.", TextEdgeTests::previousLengths);
    }

    private static void empties() {
        PageMarriages m = Scenes.fullText();
        m.clearText();
        Tally.is("the empty text", 0, m.errorPosition());
        Tally.illegalState(() -> m.load());
        Tally.is(1, m.append('M'));
        Tally.is("nothing of the text before is left", NONE, m.errorPosition());
        Tally.is(6, m.page(0, 0, 1));
        Tally.is("it is no action", 0, m.undo());
    }

    private static void previousLengths() {
        PageMarriages m = new PageMarriages();
        Tally.is("the empty text", 0, m.clearText());
        Tally.is(0, m.clearText());
        m.append(0);
        Tally.is(1, m.clearText());
        Tally.is(0, m.clearText());
        Tally.is("100 characters", 100, Scenes.fullText().clearText());
        PageMarriages full = Scenes.fullText();
        Tally.illegalState(() -> full.append('e'));
        Tally.is("one more was refused", 100, full.clearText());
        Tally.is(0, full.clearText());
    }

    // ---- promise 4

    private static void errorPosition(Edges e) {
        e.holds("Returns the error position of the text; NONE if it is a story.",
            TextEdgeTests::errorPositions);
        e.holds("if the text ends too soon, it is the length of the text",
            TextEdgeTests::endsTooSoon);
        e.holds("A story is the letter M, and then any number of commands",
            TextEdgeTests::anyNumberOfCommands);
        e.holds("w, a digit for a process (0 to 3), two for a page (00 to 15) and two for"
            + " a value (00 to 99): write()", TextEdgeTests::writeCommands);
        e.holds("f and a digit for a process: fork()", () -> processCommands('f'));
        e.holds("x and a digit for a process: exit()", () -> processCommands('x'));
        e.holds("m, a digit for a process and one for a group (0 to 3): marry()",
            TextEdgeTests::marryCommands);
        e.holds("e: the memory is eager from then on", TextEdgeTests::eagerCommands);
        e.holds("There are no blanks.", TextEdgeTests::blanks);
        e.holds("The text is read from left to right.", TextEdgeTests::firstErrorCounts);
        e.holds("(a digit is not allowed if no number that is allowed begins with it and those"
            + " before it)", TextEdgeTests::digitsOfPages);
        e.holds("Checks the text.", () -> Unchanged.by(Scenes::usual, m -> m.errorPosition()));
    }

    /** The error position of a text, which is the only one of a new object. */
    private static int errorOf(String text) {
        PageMarriages m = new PageMarriages();
        Look.type(m, text);
        return m.errorPosition();
    }

    private static void storyIs(String... texts) {
        for (String text : texts) {
            Tally.is(text, NONE, errorOf(text));
        }
    }

    private static void errorIs(int due, String... texts) {
        for (String text : texts) {
            Tally.is(text, due, errorOf(text));
        }
    }

    private static void errorPositions() {
        storyIs("M", "Me", "Mw00000f0x1m23e");
        errorIs(0, "", "e", "?M", " ");
        errorIs(99, "M" + "e".repeat(98) + "M");
        errorIs(0, "?".repeat(100));
    }

    private static void endsTooSoon() {
        errorIs(0, "");
        errorIs(2, "Mw", "Mf", "Mx", "Mm");
        errorIs(3, "Mw3", "Mm3", "Mef");
        errorIs(4, "Mw31", "Mx3f");
        errorIs(5, "Mw315");
        errorIs(6, "Mw3159");
        errorIs(100, "M" + "e".repeat(98) + "f", "M" + "e".repeat(97) + "m0",
            "M" + "e".repeat(94) + "w0000");
    }

    private static void anyNumberOfCommands() {
        storyIs("M", "M" + "e".repeat(99), "M" + "x0".repeat(49), "M" + "m00".repeat(33),
            "M" + "w00000".repeat(16));
        errorIs(0, "L", "N", "m", "W", "0", "eM");
        errorIs(1, "MM", "M0", "Mv", "My", "Mg", "Md", "ME", "M\u0000", "M\u00ff");
    }

    private static void writeCommands() {
        storyIs("Mw00000", "Mw30000", "Mw31599", "Mw00099", "Mw00900", "Mw01000", "Mw01599");
        errorIs(2, "Mw/0000", "Mw40000", "Mw90000", "Mw:0000");
        errorIs(3, "Mw0/000", "Mw02000", "Mw09000", "Mw0:000");
        errorIs(4, "Mw00/00", "Mw00:00", "Mw01/00", "Mw01600", "Mw01900", "Mw01:00");
        errorIs(5, "Mw000/0", "Mw000:0", "Mw015/9");
        errorIs(6, "Mw0000/", "Mw0000:", "Mw0159:", "Mw0159/");
        errorIs(7, "Mw000000", "Mw0159900");
    }

    private static void processCommands(char letter) {
        storyIs("M" + letter + "0", "M" + letter + "3", "M" + letter + "3" + letter + "0");
        errorIs(2, "M" + letter + "/", "M" + letter + "4", "M" + letter + "9",
            "M" + letter + ":", "M" + letter + letter);
        errorIs(3, "M" + letter + "00", "M" + letter + "3M");
    }

    private static void marryCommands() {
        storyIs("Mm00", "Mm03", "Mm30", "Mm33", "Mm33m00");
        errorIs(2, "Mm/0", "Mm40", "Mm90", "Mm:0", "Mme");
        errorIs(3, "Mm0/", "Mm04", "Mm09", "Mm3:", "Mm3m");
        errorIs(4, "Mm000", "Mm33M");
        String first = "Mf0f0f0w00001w00101w00201w00301w31201w31301w31401w31501";
        Tally.is("no command marries", 0, Look.story(first).about(3));
        Tally.is(1, Look.story(first + "m00").group(0, 0, 1));
        Tally.is(1, Look.story(first + "m33").group(3, 3, 1));
        Tally.is(0, Look.story(first + "m03m30").about(3));
        Tally.is(1, Look.story("Mw01201w01301w01401w01501m03").group(0, 3, 1));
        Tally.is(1, Look.story("Mf0f0f0w30001w30101w30201w30301m30").group(3, 0, 1));
    }

    private static void eagerCommands() {
        storyIs("Me", "Mee");
        errorIs(2, "Me0", "Me3", "MeE");
        PageMarriages m = Look.story("Mw00001ew00401");
        Tally.is("not before", 0, m.group(0, 0, 1));
        Tally.is("from then on", 1, m.group(0, 1, 1));
        Tally.is("also behind the text", 1, m.write(0, 8, 1));
        Tally.is(1, m.group(0, 2, 1));
    }

    private static void blanks() {
        errorIs(0, " ", " M", " Me");
        errorIs(1, "M ", "M e");
        errorIs(2, "Me ", "Mw 00000", "Mf 0", "Mm 00");
        errorIs(3, "Mw0 0000", "Mm0 0", "Mf0 ");
        errorIs(4, "Mw00 000", "Mm00 m00");
        errorIs(5, "Mw000 00");
        errorIs(6, "Mw0000 0");
        errorIs(99, "M" + "e".repeat(98) + " ");
    }

    private static void firstErrorCounts() {
        errorIs(0, "mw4", "?M?");
        errorIs(2, "Mw49999", "Mf4x4");
        errorIs(3, "Mf0?x4");
        errorIs(5, "Mee" + "f0?w4");
    }

    private static void digitsOfPages() {
        errorIs(3, "Mw02", "Mw03", "Mw09", "Mw020");
        errorIs(4, "Mw016", "Mw017", "Mw019", "Mw0160");
        errorIs(2, "Mf4", "Mf9", "Mf5", "Mm4", "Mw4");
        errorIs(3, "Mm34", "Mm39");
    }

    // ---- promise 5

    private static void load(Edges e) {
        e.holds("Makes everything as in a new object, and then does the commands of the text",
            TextEdgeTests::beginsAnew);
        e.holds("those that would throw an exception are left out", TextEdgeTests::leavesOut);
        e.holds("Forgets all remembered states and empties both save slots. Keeps the text.",
            TextEdgeTests::forgets);
        e.holds("Returns the number of commands that are left out.", TextEdgeTests::leftOut);
        e.holds("Throws IllegalStateException if the text is not a story",
            TextEdgeTests::noStory);
        e.holds("load and restore are not actions.", TextEdgeTests::loadIsNoAction);
    }

    private static void beginsAnew() {
        PageMarriages m = Scenes.usual();
        m.tear(1, 0);
        m.setEager(true);
        m.press(32);
        m.fork(1);
        for (int what = 5; what <= 10; what++) {
            Tally.is("about(" + what + ") is more than 0", 1, m.about(what) > 0 ? 1 : 0);
        }
        Look.type(m, "M");
        Tally.is(0, m.load());
        Look.same(Look.at(new PageMarriages()), m);
        Tally.is(1, m.write(0, 15, 7));
        Tally.is("the frame 0", 15, m.user(0, 0));
        PageMarriages full = Scenes.crowded();
        Look.type(full, "M");
        Tally.is(0, full.load());
        Look.same(Look.at(new PageMarriages()), full);
        PageMarriages other = Scenes.four();
        Look.type(other, "Mf0w00001");
        other.load();
        Look.same(Look.at(Look.story("Mf0w00001")), other);
        other.load();
        Look.same(Look.at(Look.story("Mf0w00001")), other);
    }

    private static void leavesOut() {
        Tally.is("the only process", 1, loaded("Mx0").load());
        Tally.is("no such process", 4, loaded("Mw10000f1x1m10").load());
        Tally.is("four processes", 1, loaded("Mf0f0f0f3").load());
        Tally.is("a page has no frame", 1, loaded("Mw00001w00101w00201m00").load());
        Tally.is("a page is shared", 2, loaded("Mw00001w00101w00201w00301f0m00m10").load());
        Tally.is("it is big", 1, loaded("Mew00001m00").load());
        Tally.is("it can marry", 0, loaded("Mw00001w00101w00201w00301m00").load());
        String all = "Mef0w00001w00401w00801w01201w10001w10401w10801w11201";
        Tally.is("all 32 frames are used", 0, loaded(all).load());
        PageMarriages m = loaded(all + "f0w20001");
        Tally.is("no frame is free", 1, m.load());
        Tally.is("it is not torn", 1, m.group(2, 0, 1));
        Tally.is(0, m.about(8));
        Tally.is(0, m.about(6));
        Tally.is("16 are free again", 0, loaded(all + "f0x1w20001").load());
    }

    /** Has this text, and is full of other things. */
    private static PageMarriages loaded(String text) {
        PageMarriages m = Scenes.crowded();
        Look.type(m, text);
        return m;
    }

    private static void forgets() {
        PageMarriages m = Scenes.crowded();
        m.save(0);
        m.save(1);
        Look.type(m, "M" + "e".repeat(99));
        Tally.is(0, m.load());
        Tally.illegalState(() -> m.undo());
        Tally.illegalState(() -> m.restore(0));
        Tally.illegalState(() -> m.restore(1));
        Tally.is("the text is kept", NONE, m.errorPosition());
        m.write(0, 0, 1);
        Tally.is("one state is remembered", 0, m.undo());
        Tally.is(32, m.save(1));
        Tally.illegalState(() -> m.restore(0));
        Tally.is(32, m.restore(1));
        Tally.is(100, m.clearText());
    }

    private static void leftOut() {
        PageMarriages none = new PageMarriages();
        none.append('M');
        Tally.is("no commands", 0, none.load());
        PageMarriages all = Scenes.fullText();
        Tally.is("all but the first", 49, all.load());
        Tally.is("again", 49, all.load());
        PageMarriages few = new PageMarriages();
        Look.type(few, "M" + "f0x0".repeat(24));
        Tally.is("the second command ends the process 0", 46, few.load());
        Tally.is(2, few.about(0));
    }

    private static void noStory() {
        Unchanged.illegalState(() -> withText(""), m -> m.load());
        Unchanged.illegalState(() -> withText("e"), m -> m.load());
        Unchanged.illegalState(() -> withText("Mf"), m -> m.load());
        Unchanged.illegalState(() -> withText("Mf0w0159"), m -> m.load());
        Unchanged.illegalState(() -> withText("Mf0x0f1f4"), m -> m.load());
        Unchanged.illegalState(() -> withText("M" + "e".repeat(98) + "f"), m -> m.load());
        Unchanged.illegalState(() -> withText("M" + "x0".repeat(49) + " "), m -> m.load());
    }

    private static PageMarriages withText(String text) {
        PageMarriages m = Scenes.usual();
        Look.type(m, text);
        return m;
    }

    private static void loadIsNoAction() {
        PageMarriages m = new PageMarriages();
        Look.type(m, "Mf0w10005e");
        m.load();
        Tally.illegalState(() -> m.undo());
        m.save(0);
        m.restore(0);
        Tally.illegalState(() -> m.undo());
    }
}
