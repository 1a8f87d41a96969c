/** Promises 25 and 26 at their edges. */
final class SlotEdgeTests {
    private SlotEdgeTests() {
    }

    static void run(Edges.Book book) {
        save(book.promise(25));
        restore(book.promise(26));
    }

    // ---- promise 25

    private static void save(Edges e) {
        e.holds("Throws IndexOutOfBoundsException if there is no such save slot", () -> {
            Unchanged.outOfBounds(Scenes::usual, m -> m.save(-1), m -> m.save(2),
                m -> m.save(Integer.MIN_VALUE), m -> m.save(Integer.MAX_VALUE));
            Unchanged.outOfBounds(PageMarriages::new, m -> m.save(-1), m -> m.save(2));
        });
        e.holds("slot: 0 or 1", SlotEdgeTests::bothSlots);
        e.holds("Returns the number of free frames.", () -> {
            Tally.is("all are free", 32, new PageMarriages().save(0));
            Tally.is("none is free", 0, Scenes.full().save(1));
            Tally.is(1, Scenes.oneFree().save(0));
        });
        e.holds("Stores the present state in a save slot.", SlotEdgeTests::presentState);
    }

    private static void bothSlots() {
        PageMarriages m = new PageMarriages();
        Tally.is(32, m.save(0));
        m.write(0, 0, 1);
        Tally.is(31, m.save(1));
        m.write(0, 1, 1);
        Tally.is(32, m.restore(0));
        Tally.is(31, m.restore(1));
        Tally.is(1, m.page(0, 0, 1));
        Tally.is(32, m.restore(0));
        Tally.outOfBounds(() -> m.save(2));
        Tally.outOfBounds(() -> m.save(-1));
    }

    private static void presentState() {
        PageMarriages m = Scenes.crowded();
        int[] due = Look.at(m);
        m.save(0);
        Tally.is("the remembered states stay", 13, m.undo());
        m.exit(1);
        m.restore(0);
        Look.same(due, m);
        m.exit(0);
        m.save(0);
        m.exit(1);
        m.restore(0);
        Tally.is("what was saved later", 6, m.about(0));
    }

    // ---- promise 26

    private static void restore(Edges e) {
        e.holds("Throws IndexOutOfBoundsException if there is no such save slot", () ->
            Unchanged.outOfBounds(Scenes::usual, m -> m.restore(-1), m -> m.restore(2),
                m -> m.restore(Integer.MIN_VALUE), m -> m.restore(Integer.MAX_VALUE)));
        e.holds("Throws IllegalStateException if nothing has been saved in it since the last load",
            SlotEdgeTests::nothingSaved);
        e.holds("If several exceptions apply to a call, the one that its description names first"
            + " is thrown.", () -> Unchanged.outOfBounds(PageMarriages::new, m -> m.restore(-1),
                m -> m.restore(2)));
        e.holds("slot: 0 or 1", () -> {
            PageMarriages m = new PageMarriages();
            m.save(0);
            Tally.is(32, m.restore(0));
            Tally.illegalState(() -> m.restore(1));
            m.save(1);
            Tally.is(32, m.restore(1));
            Tally.outOfBounds(() -> m.restore(2));
            Tally.outOfBounds(() -> m.restore(-1));
        });
        e.holds("Returns the number of free frames then.", () -> {
            PageMarriages m = Scenes.full();
            m.save(0);
            m.exit(0);
            Tally.is(16, m.save(1));
            Tally.is("none is free", 0, m.restore(0));
            Tally.is(16, m.restore(1));
        });
        e.holds("Replaces the state by the one in a save slot, and forgets all remembered states.",
            SlotEdgeTests::forgetsStates);
        e.holds("The save slot keeps it.", SlotEdgeTests::slotKeeps);
        e.holds("load and restore are not actions.", () -> {
            PageMarriages m = new PageMarriages();
            m.save(0);
            m.restore(0);
            Tally.illegalState(() -> m.undo());
            m.write(0, 0, 1);
            Tally.is(0, m.undo());
        });
    }

    private static void nothingSaved() {
        Unchanged.illegalState(PageMarriages::new, m -> m.restore(0), m -> m.restore(1));
        Unchanged.illegalState(Scenes::usual, m -> m.restore(0));
        Unchanged.illegalState(Scenes::lone, m -> m.restore(1));
        Unchanged.illegalState(SlotEdgeTests::loadedAgain, m -> m.restore(0), m -> m.restore(1));
        PageMarriages refused = Scenes.usual();
        refused.clearText();
        Tally.illegalState(() -> refused.load());
        Tally.is("a load that is refused empties no slot", 24, refused.restore(1));
        PageMarriages again = loadedAgain();
        again.save(1);
        Tally.illegalState(() -> again.restore(0));
        Tally.is("saved since the last load", 31, again.restore(1));
        PageMarriages undone = new PageMarriages();
        undone.write(0, 0, 1);
        undone.save(0);
        undone.undo();
        Tally.is("undo empties no slot", 31, undone.restore(0));
    }

    /** Both slots were filled ahead of the last load. */
    private static PageMarriages loadedAgain() {
        PageMarriages m = Look.story("Mw00005f0");
        m.save(0);
        m.save(1);
        m.load();
        m.fork(0);
        return m;
    }

    private static void forgetsStates() {
        PageMarriages m = Scenes.crowded();
        m.save(0);
        Tally.is("14 were remembered", 0, m.restore(0));
        Tally.illegalState(() -> m.undo());
        Look.same(Look.at(Scenes.crowded()), m);
        for (int i = 0; i < 15; i++) {
            m.setEager(i % 2 == 0);
        }
        for (int i = 13; i >= 0; i--) {
            Tally.is(i, m.undo());
        }
        Tally.illegalState(() -> m.undo());
    }

    private static void slotKeeps() {
        PageMarriages m = Scenes.usual();
        for (int time = 0; time < 3; time++) {
            Tally.is(24, m.restore(1));
            Tally.is(2, m.about(3) - 1);
            Tally.is(7, m.page(0, 0, 1));
            m.write(0, 0, 50 + time);
            m.exit(1);
            m.setEager(false);
            m.press(32);
        }
        m.restore(1);
        Look.same(Look.at(Look.story("Mew00007f0w10509")), m);
    }
}
