/** Promises 1 to 5: a new object, append, clearText, errorPosition, load. */
final class TextTests {
    private TextTests() {
    }

    static void run(Tally t) {
        t.test("1 a new object", TextTests::newObject);
        t.test("2 append counts to 100", TextTests::appendCounts);
        t.test("2 append refuses", TextTests::appendRefuses);
        t.test("3 clearText", TextTests::clears);
        t.test("4 errorPosition of stories", TextTests::stories);
        t.test("4 errorPosition of texts that end too soon", TextTests::endTooSoon);
        t.test("4 errorPosition of wrong characters", TextTests::wrongCharacters);
        t.test("4 errorPosition of every character at every place", TextTests::everyCharacter);
        t.test("5 load does every command", TextTests::loadDoes);
        t.test("5 load leaves out what would throw", TextTests::loadLeavesOut);
        t.test("5 load begins anew", TextTests::loadBeginsAnew);
        t.test("5 load forgets states and slots", TextTests::loadForgets);
        t.test("5 load refuses and changes nothing", TextTests::loadRefuses);
        t.test("5 load of a full text", TextTests::loadFull);
    }

    private static void newObject() {
        PageMarriages m = new PageMarriages();
        int[] due = {1, 32, 8, 0, 0, 0, 0, 0, 0, 0, 0};
        for (int what = 0; what < due.length; what++) {
            Tally.is("about(" + what + ")", due[what], m.about(what));
        }
        for (int v = 0; v < 16; v++) {
            for (int what = 0; what < 3; what++) {
                Tally.is(PageMarriages.NONE, m.page(0, v, what));
            }
            Tally.is(0, m.page(0, v, 3));
        }
        for (int g = 0; g < 4; g++) {
            for (int what = 0; what < 4; what++) {
                Tally.is(0, m.group(0, g, what));
            }
            Tally.is(PageMarriages.NONE, m.group(0, g, 4));
        }
        for (int f = 0; f < 32; f++) {
            Tally.is(PageMarriages.NONE, m.user(f, 0));
        }
        Tally.is(-1, PageMarriages.NONE);
        Tally.is(0, m.clearText());
        Tally.illegalState(() -> m.undo());
        Tally.illegalState(() -> m.restore(0));
        Tally.illegalState(() -> m.restore(1));
        for (int p = 1; p < 4; p++) {
            int other = p;
            Tally.outOfBounds(() -> m.page(other, 0, 0));
        }
        PageMarriages second = new PageMarriages();
        m.write(0, 0, 1);
        Tally.is(32, second.about(1));
    }

    private static void appendCounts() {
        PageMarriages m = new PageMarriages();
        for (int i = 1; i <= 100; i++) {
            Tally.is(i, m.append(i % 2 == 0 ? 0 : 255));
        }
    }

    private static void appendRefuses() {
        PageMarriages m = new PageMarriages();
        int[] wrong = {-1, 256, Integer.MIN_VALUE, Integer.MAX_VALUE, 256 + 'M'};
        for (int c : wrong) {
            Tally.illegalArgument(() -> m.append(c));
        }
        Tally.is(1, m.append('M'));
        for (int i = 2; i <= 100; i++) {
            m.append('e');
        }
        Tally.illegalState(() -> m.append('e'));
        Tally.illegalState(() -> m.append(0));
        Tally.illegalArgument(() -> m.append(-1));
        Tally.illegalArgument(() -> m.append(256));
        Tally.is(PageMarriages.NONE, m.errorPosition());
        Tally.is(100, m.clearText());
        Tally.is(1, m.append('M'));
    }

    private static void clears() {
        PageMarriages m = new PageMarriages();
        Tally.is(0, m.clearText());
        m.append('M');
        m.append('e');
        Tally.is(2, m.clearText());
        Tally.is(0, m.clearText());
        Tally.is(0, m.errorPosition());
        Tally.is(1, m.append('x'));
        Tally.is(0, m.errorPosition());
        m.write(0, 0, 7);
        Tally.is(1, m.clearText());
        Tally.is(7, m.page(0, 0, 1));
        Tally.is(0, m.undo());
    }

    private static int errorOf(String text) {
        PageMarriages m = new PageMarriages();
        Look.type(m, text);
        return m.errorPosition();
    }

    private static void stories() {
        String[] stories = {"M", "Me", "Meee", "Mf0", "Mf3x3", "Mm00", "Mm33", "Mw00000", "Mw31599",
            "Mw00999", "Mw21000", "Mw00000f0x1m00e", "Mew31599m33"};
        for (String story : stories) {
            Tally.is(story, PageMarriages.NONE, errorOf(story));
        }
    }

    private static void endTooSoon() {
        String[] texts = {"", "Mw", "Mw0", "Mw01", "Mw015", "Mw0159", "Mf", "Mx", "Mm", "Mm1",
            "Mef0w"};
        for (String text : texts) {
            Tally.is(text, text.length(), errorOf(text));
        }
    }

    private static void wrongCharacters() {
        String[] texts = {"!m", "M!M", "M! ", "M!W", "Mw!4", "Mw!a", "Mw0!2", "Mw01!6",
            "Mw01!9", "Mw0150!a", "Mw01500!0", "Mw0099!:", "Mf!4", "Mx!9", "Mm!4", "Mm0!4", "Mm00!0",
            "Me!0", "Mf0! ", "Mf0!F", "Mf!/", "Mw00!/", "! M", "!", "M!\u0000", "Mm0!e"};
        for (String marked : texts) {
            int due = marked.equals("!") ? 0 : marked.indexOf('!');
            String text = marked.equals("!") ? "!" : marked.replaceFirst("!", "");
            Tally.is(text, due, errorOf(text));
        }
    }

    /** Behind each beginning just the signs in the second text are allowed. */
    private static void everyCharacter() {
        String digits = "0123456789";
        String[][] allowed = {
            {"", "M"}, {"M", "wfxme"}, {"Mw", "0123"}, {"Mw3", "01"}, {"Mw00", digits},
            {"Mw01", "012345"}, {"Mw015", digits}, {"Mw0000", digits}, {"Mw00000", "wfxme"},
            {"Mf", "0123"}, {"Mf0", "wfxme"}, {"Mx", "0123"}, {"Mx3", "wfxme"}, {"Mm", "0123"},
            {"Mm2", "0123"}, {"Mm23", "wfxme"}, {"Me", "wfxme"}};
        for (String[] row : allowed) {
            for (int c = 0; c < 256; c++) {
                PageMarriages m = new PageMarriages();
                Look.type(m, row[0]);
                m.append(c);
                boolean refused = m.errorPosition() == row[0].length();
                boolean due = row[1].indexOf((char) c) < 0;
                if (refused != due) {
                    throw new AssertionError("sign " + c + " behind " + row[0]);
                }
            }
        }
    }

    private static void loadDoes() {
        PageMarriages m = new PageMarriages();
        Look.type(m, "Mw00012w01534f0x0");
        Tally.is(0, m.load());
        Tally.is(2, m.about(0));
        Tally.is(0, m.page(1, 0, 0));
        Tally.is(12, m.page(1, 0, 1));
        Tally.is(1, m.page(1, 15, 0));
        Tally.is(34, m.page(1, 15, 1));
        Tally.is(2, m.about(7));
        Tally.is(0, m.about(10));
        Look.type(m, "Mew01099w00001w00101w00202w00303m02m00");
        Tally.is(2, m.load());
        Tally.is(1, m.about(10));
        Tally.is(2, m.about(3));
        Tally.is(99, m.page(0, 10, 1));
        Look.type(m, "Mw00801w00901w01002w01103m02");
        Tally.is(0, m.load());
        Tally.is(1, m.group(0, 2, 1));
        Look.type(m, "Mf0f0w20401w20501w20602w20703m21");
        Tally.is(0, m.load());
        Tally.is(1, m.group(2, 1, 1));
    }

    private static void loadLeavesOut() {
        PageMarriages m = new PageMarriages();
        Look.type(m, "Mw10000x0f1f0f0f0f0m00m33x2x2w20000");
        Tally.is(8, m.load());
        Tally.is(1 + 2 + 8, m.about(0));
        Tally.is(PageMarriages.NONE, m.errorPosition());
        Tally.is(8, m.load());
        Look.type(m, "M");
        Tally.is(0, m.load());
        Look.same(Look.at(new PageMarriages()), m);
    }

    private static void loadBeginsAnew() {
        PageMarriages m = Look.story("Mew00000f0w10011f1w10800");
        m.press(32);
        m.tear(0, 0);
        Look.type(m, "M");
        m.load();
        Look.same(Look.at(new PageMarriages()), m);
        Tally.is(1, m.write(0, 5, 3));
        Tally.is(0, m.page(0, 5, 0));
        Tally.is(0, m.page(0, 5, 3));
    }

    private static void loadForgets() {
        PageMarriages m = new PageMarriages();
        m.write(0, 0, 1);
        m.save(0);
        m.save(1);
        Look.type(m, "Mw00000f0");
        m.load();
        Tally.illegalState(() -> m.undo());
        Tally.illegalState(() -> m.restore(0));
        Tally.illegalState(() -> m.restore(1));
        m.save(1);
        Tally.illegalState(() -> m.restore(0));
        Tally.is(31, m.restore(1));
    }

    private static void loadRefuses() {
        PageMarriages m = new PageMarriages();
        m.write(0, 0, 1);
        m.save(0);
        m.write(0, 1, 2);
        Look.unchangedBy(m, () -> Tally.illegalState(() -> m.load()));
        m.append('M');
        m.append('f');
        Look.unchangedBy(m, () -> Tally.illegalState(() -> m.load()));
        Tally.is(2, m.errorPosition());
        Tally.is(1, m.undo());
        Tally.is(31, m.restore(0));
    }

    private static void loadFull() {
        String text = "Mf0f0f0" + "x1f0w30001".repeat(9) + "eee";
        PageMarriages m = new PageMarriages();
        Look.type(m, text);
        Tally.illegalState(() -> m.append('e'));
        Tally.is(PageMarriages.NONE, m.errorPosition());
        Tally.is(0, m.load());
        Tally.is(15, m.about(0));
        Tally.is(1, m.page(3, 0, 1));
        Tally.is(1, m.about(7));
        Tally.is(1, m.about(10));
        Tally.is(100, m.clearText());
    }
}
