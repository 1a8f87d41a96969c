/** Promises 6 to 9: about, page, user, group. */
final class LookTests {
    private LookTests() {
    }

    static void run(Tally t) {
        t.test("6 about counts what there is", LookTests::aboutCounts);
        t.test("6 about counts what has been", LookTests::aboutHistory);
        t.test("6 about counts widows", LookTests::aboutWidows);
        t.test("6 about refuses", LookTests::aboutRefuses);
        t.test("7 page", LookTests::pageTells);
        t.test("7 page refuses", LookTests::pageRefuses);
        t.test("8 user", LookTests::userTells);
        t.test("8 user refuses", LookTests::userRefuses);
        t.test("9 group", LookTests::groupTells);
        t.test("9 group refuses", LookTests::groupRefuses);
    }

    private static void aboutIs(PageMarriages m, int... due) {
        for (int what = 0; what < due.length; what++) {
            Tally.is("about(" + what + ")", due[what], m.about(what));
        }
    }

    private static void aboutCounts() {
        PageMarriages m = new PageMarriages();
        m.setEager(true);
        aboutIs(m, 1, 32, 8, 0, 0, 0, 0, 0, 0, 0, 1);
        m.write(0, 5, 7);
        aboutIs(m, 1, 28, 7, 1, 0, 0, 0, 1, 0, 0, 1);
        m.setEager(false);
        m.write(0, 0, 7);
        aboutIs(m, 1, 27, 6, 1, 0, 0, 0, 2, 0, 0, 0);
        m.fork(0);
        aboutIs(m, 3, 27, 6, 2, 0, 5, 0, 2, 0, 0, 0);
        m.fork(1);
        m.exit(1);
        aboutIs(m, 5, 27, 6, 2, 0, 5, 0, 2, 0, 0, 0);
        m.write(2, 5, 8);
        aboutIs(m, 5, 26, 6, 1, 1, 4, 1, 2, 1, 0, 0);
    }

    private static void aboutHistory() {
        PageMarriages m = Look.story("Mw00001w00400w00201w00301w00100");
        aboutIs(m, 1, 27, 6, 0, 0, 0, 0, 5, 0, 0, 0);
        m.marry(0, 0);
        aboutIs(m, 1, 27, 6, 1, 0, 0, 4, 5, 0, 0, 0);
        m.press(28);
        aboutIs(m, 1, 28, 7, 1, 0, 0, 4, 5, 0, 1, 0);
        m.press(29);
        aboutIs(m, 1, 29, 7, 0, 0, 0, 4, 5, 1, 2, 0);
        m.fork(0);
        m.write(1, 0, 1);
        aboutIs(m, 3, 28, 7, 0, 0, 2, 5, 5, 1, 2, 0);
        m.write(0, 0, 1);
        aboutIs(m, 3, 28, 7, 0, 0, 2, 5, 5, 1, 2, 0);
        m.write(0, 1, 1);
        aboutIs(m, 3, 27, 6, 0, 0, 2, 5, 6, 1, 2, 0);
    }

    private static void aboutWidows() {
        PageMarriages m = Look.story("Mew00001w00401");
        Tally.is("a lone big group is none", 0, m.about(4));
        m.fork(0);
        m.fork(0);
        Tally.is("three share the run", 0, m.about(4));
        m.tear(0, 0);
        Tally.is("two are big still", 0, m.about(4));
        m.tear(2, 0);
        Tally.is("one is left", 1, m.about(4));
        Tally.is(1, m.group(1, 0, 2));
        m.tear(2, 1);
        m.tear(0, 1);
        Tally.is(2, m.about(4));
        m.exit(0);
        Tally.is("still shared with the process 2", 2, m.about(4));
        m.exit(2);
        Tally.is("no frame is shared", 0, m.about(4));
        Tally.is(2, m.about(3));
    }

    private static void aboutRefuses() {
        PageMarriages m = new PageMarriages();
        int[] wrong = {-1, 11, Integer.MIN_VALUE, Integer.MAX_VALUE};
        for (int what : wrong) {
            Tally.illegalArgument(() -> m.about(what));
        }
    }

    private static void pageIs(PageMarriages m, int p, int v, int... due) {
        for (int what = 0; what < due.length; what++) {
            Tally.is("page(" + p + ", " + v + ", " + what + ")", due[what], m.page(p, v, what));
        }
    }

    private static void pageTells() {
        PageMarriages m = Look.story("Mw00542ew00907");
        pageIs(m, 0, 5, 0, 42, 1, 0);
        pageIs(m, 0, 4, -1, -1, -1, 0);
        pageIs(m, 0, 8, 4, 0, 1, 1);
        pageIs(m, 0, 9, 5, 7, 1, 1);
        pageIs(m, 0, 11, 7, 0, 1, 1);
        m.fork(0);
        m.fork(1);
        pageIs(m, 2, 5, 0, 42, 3, 0);
        pageIs(m, 1, 9, 5, 7, 3, 1);
        m.write(1, 9, 99);
        pageIs(m, 1, 9, 1, 99, 1, 0);
        pageIs(m, 1, 8, 4, 0, 3, 0);
        pageIs(m, 0, 9, 5, 7, 2, 1);
        m.write(0, 15, 3);
        pageIs(m, 0, 15, 11, 3, 1, 1);
        pageIs(m, 0, 12, 8, 0, 1, 1);
        pageIs(m, 1, 15, -1, -1, -1, 0);
    }

    private static void pageRefuses() {
        PageMarriages m = Look.story("Mf0x0");
        int[][] missing = {{-1, 0}, {0, 0}, {2, 0}, {3, 0}, {4, 0}, {1, -1}, {1, 16},
            {Integer.MIN_VALUE, 0}, {1, Integer.MIN_VALUE}, {1, Integer.MAX_VALUE},
            {Integer.MAX_VALUE, 0}, {33, 0}};
        for (int[] at : missing) {
            Tally.outOfBounds(() -> m.page(at[0], at[1], 0));
            Tally.outOfBounds(() -> m.page(at[0], at[1], 4));
        }
        int[] wrong = {-1, 4, Integer.MIN_VALUE, Integer.MAX_VALUE};
        for (int what : wrong) {
            Tally.illegalArgument(() -> m.page(1, 0, what));
        }
        Tally.is(-1, m.page(1, 15, 0));
    }

    private static void userTells() {
        PageMarriages m = Look.story("Mw01505w00306f0f0f1");
        Tally.is(15, m.user(0, 0));
        Tally.is(115, m.user(0, 1));
        Tally.is(215, m.user(0, 2));
        Tally.is(315, m.user(0, 3));
        Tally.is(-1, m.user(0, 4));
        Tally.is(-1, m.user(0, Integer.MAX_VALUE));
        Tally.is(303, m.user(1, 3));
        Tally.is(-1, m.user(2, 0));
        Tally.is(-1, m.user(31, 0));
        m.exit(1);
        m.write(0, 3, 1);
        Tally.is(203, m.user(1, 0));
        Tally.is(303, m.user(1, 1));
        Tally.is(-1, m.user(1, 2));
        Tally.is(3, m.user(2, 0));
        m.write(3, 0, 1);
        Tally.is(300, m.user(3, 0));
        m.fork(3);
        Tally.is(100, m.user(3, 0));
        Tally.is(300, m.user(3, 1));
    }

    private static void userRefuses() {
        PageMarriages m = new PageMarriages();
        int[] missing = {-1, 32, Integer.MIN_VALUE, Integer.MAX_VALUE};
        for (int f : missing) {
            Tally.outOfBounds(() -> m.user(f, 0));
            Tally.outOfBounds(() -> m.user(f, -1));
        }
        Tally.illegalArgument(() -> m.user(0, -1));
        Tally.illegalArgument(() -> m.user(31, Integer.MIN_VALUE));
    }

    private static void groupIs(PageMarriages m, int p, int g, int... due) {
        for (int what = 0; what < due.length; what++) {
            Tally.is("group(" + p + ", " + g + ", " + what + ")", due[what], m.group(p, g, what));
        }
    }

    private static void groupTells() {
        PageMarriages m = Look.story("Mw00001w00201ew01407");
        groupIs(m, 0, 0, 2, 0, 0, 0, -1);
        groupIs(m, 0, 1, 0, 0, 0, 0, -1);
        groupIs(m, 0, 3, 4, 1, 0, 0, 1);
        m.fork(0);
        groupIs(m, 1, 0, 2, 0, 0, 2, -1);
        groupIs(m, 1, 3, 4, 1, 0, 4, 1);
        m.write(0, 13, 2);
        groupIs(m, 0, 3, 4, 0, 0, 3, -1);
        groupIs(m, 1, 3, 4, 1, 1, 3, 1);
        m.write(0, 12, 2);
        m.write(0, 14, 2);
        groupIs(m, 1, 3, 4, 1, 1, 1, 1);
        m.write(0, 15, 2);
        groupIs(m, 1, 3, 4, 1, 0, 0, 1);
        groupIs(m, 0, 3, 4, 0, 0, 0, -1);
    }

    private static void groupRefuses() {
        PageMarriages m = Look.story("Mf0x0");
        int[][] missing = {{-1, 0}, {0, 0}, {2, 0}, {4, 0}, {1, -1}, {1, 4}, {1, Integer.MIN_VALUE},
            {Integer.MIN_VALUE, 0}, {1, Integer.MAX_VALUE}, {Integer.MAX_VALUE, 0}, {33, 0}};
        for (int[] at : missing) {
            Tally.outOfBounds(() -> m.group(at[0], at[1], 0));
            Tally.outOfBounds(() -> m.group(at[0], at[1], 5));
        }
        int[] wrong = {-1, 5, Integer.MIN_VALUE, Integer.MAX_VALUE};
        for (int what : wrong) {
            Tally.illegalArgument(() -> m.group(1, 0, what));
        }
        Tally.is(0, m.group(1, 3, 0));
    }
}
