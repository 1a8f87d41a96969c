/** Promises 25 and 26: save, restore. */
final class SlotTests {
    private SlotTests() {
    }

    static void run(Tally t) {
        t.test("25 save stores the state", SlotTests::saves);
        t.test("25 save refuses", SlotTests::saveRefuses);
        t.test("26 restore brings all back", SlotTests::restores);
        t.test("26 restore forgets what is remembered", SlotTests::restoreForgets);
        t.test("26 restore refuses", SlotTests::restoreRefuses);
    }

    private static void saves() {
        PageMarriages m = Look.story("Mew00001");
        m.write(0, 9, 3);
        Look.unchangedBy(m, () -> Tally.is(24, m.save(0)));
        Tally.is("save is no action and forgets nothing", 0, m.undo());
        Tally.is(28, m.save(1));
        Tally.is(24, m.restore(0));
        Tally.is(28, m.restore(1));
        m.write(0, 9, 3);
        m.write(0, 4, 3);
        Tally.is("what was in the slot is replaced", 20, m.save(1));
        Tally.is(24, m.restore(0));
        Tally.is(20, m.restore(1));
    }

    private static void saveRefuses() {
        PageMarriages m = new PageMarriages();
        int[] missing = {-1, 2, Integer.MIN_VALUE, Integer.MAX_VALUE};
        for (int slot : missing) {
            Tally.outOfBounds(() -> m.save(slot));
        }
        Tally.illegalState(() -> m.restore(0));
        Tally.illegalState(() -> m.restore(1));
    }

    private static void restores() {
        PageMarriages m = Look.story("Mew00001w00500w00101f0w10102w10801f1x0");
        m.tear(2, 1);
        m.press(20);
        int[] due = Look.at(m);
        m.save(1);
        m.append('!');
        m.exit(1);
        m.fork(2);
        m.setEager(false);
        m.press(32);
        m.write(2, 15, 9);
        for (int time = 0; time < 2; time++) {
            Tally.is(due[1], m.restore(1));
            Look.same(due, m);
            m.write(2, 0, 77);
            m.write(1, 0, 78);
            m.exit(2);
        }
        Tally.is("the text is not restored", 39, m.clearText());
    }

    private static void restoreForgets() {
        PageMarriages m = new PageMarriages();
        m.save(0);
        m.write(0, 0, 1);
        m.write(0, 1, 1);
        Tally.is(32, m.restore(0));
        Tally.illegalState(() -> m.undo());
        m.write(0, 0, 2);
        Tally.is(0, m.undo());
        Look.same(Look.at(new PageMarriages()), m);
    }

    private static void restoreRefuses() {
        PageMarriages m = new PageMarriages();
        m.write(0, 0, 1);
        int[] missing = {-1, 2, Integer.MIN_VALUE, Integer.MAX_VALUE};
        Look.unchangedBy(m, () -> {
            for (int slot : missing) {
                Tally.outOfBounds(() -> m.restore(slot));
            }
            Tally.illegalState(() -> m.restore(0));
        });
        m.save(1);
        Tally.illegalState(() -> m.restore(0));
        Tally.is("what throws forgets nothing", 0, m.undo());
        Tally.is(31, m.restore(1));
        Look.type(m, "M");
        m.load();
        Tally.illegalState(() -> m.restore(1));
    }
}
