/**
 * Objects at the edges that the document names. Each is made with so few calls that a look at all
 * of it stays within the 512 calls that the document promises.
 */
final class Scenes {
    private Scenes() {
    }

    /**
     * The processes 0 and 1, both with big groups, one of them a widow, and the memory not eager;
     * three states are remembered, and the slot 1 is filled.
     */
    static PageMarriages usual() {
        PageMarriages m = Look.story("Mew00007f0w10509");
        m.save(1);
        m.write(0, 1, 3);
        m.write(0, 12, 0);
        m.setEager(false);
        return m;
    }

    /** All 32 frames are used, by the pages of the processes 0 and 1, in their order. */
    static PageMarriages full() {
        PageMarriages m = Look.story("Mf0");
        Look.fill(m, 0, 32);
        return m;
    }

    /**
     * No frame is free. The process 2 is a fork of the process 0 with its own page 0; the group 1
     * of both is big. The page 15 of the process 1 has no frame. 14 states are remembered.
     */
    static PageMarriages crowded() {
        PageMarriages m = oneFree();
        m.write(2, 0, 5);
        m.setEager(true);
        return m;
    }

    /** As crowded, but ahead of the write that takes the last frame, the frame 31. */
    static PageMarriages oneFree() {
        PageMarriages m = Look.story("Mf0");
        Look.fill(m, 0, 31);
        m.marry(0, 1);
        m.fork(0);
        return m;
    }

    /** A single process, the process 2. */
    static PageMarriages lone() {
        PageMarriages m = Look.story("Mw00103f0f0x0x1");
        m.save(0);
        m.write(2, 9, 8);
        return m;
    }

    /** Four processes, whose page 0 is in one frame. */
    static PageMarriages four() {
        PageMarriages m = Look.story("Mw00003f0f0");
        m.save(1);
        m.fork(2);
        return m;
    }

    /** A text of 100 characters, which is a story with 49 commands that are left out. */
    static PageMarriages fullText() {
        PageMarriages m = new PageMarriages();
        m.write(0, 0, 6);
        m.save(0);
        Look.type(m, "Me" + "x0".repeat(49));
        return m;
    }

    /** Seven groups lie in the runs 0 to 6, none of them in order; the run 7 is free. */
    static PageMarriages crosswise() {
        PageMarriages m = Look.story("Mf0");
        for (int i = 0; i < 28; i++) {
            int[] order = {1, 0, 2, 3};
            m.write(i / 16, i % 16 / 4 * 4 + order[i % 4], i);
        }
        return m;
    }
}
