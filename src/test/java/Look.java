import java.util.Arrays;

/** What can be seen of an object without changing it. */
final class Look {
    private Look() {
    }

    /** An object that has loaded this story. */
    static PageMarriages story(String text) {
        PageMarriages m = new PageMarriages();
        type(m, text);
        m.load();
        return m;
    }

    static void type(PageMarriages m, String text) {
        m.clearText();
        for (int i = 0; i < text.length(); i++) {
            m.append(text.charAt(i));
        }
    }

    /** Writes 1 to pages: the numbers 0 to 15 are those of the process 0, 16 to 31 of the other. */
    static void fill(PageMarriages m, int from, int to) {
        for (int i = from; i < to; i++) {
            m.write(i / 16, i % 16, 1);
        }
    }

    /** What the whole state rests on, in at most 155 calls. */
    static int[] at(PageMarriages m) {
        int[] seen = new int[11 + 4 * (16 * 2 + 4)];
        for (int what = 0; what <= 10; what++) {
            seen[what] = m.about(what);
        }
        int n = 11;
        for (int p = 0; p < 4; p++) {
            if ((seen[0] >> p & 1) == 0) {
                continue;
            }
            for (int i = 0; i < 32; i++) {
                seen[n++] = m.page(p, i / 2, i % 2);
            }
            for (int g = 0; g < 4; g++) {
                seen[n++] = m.group(p, g, 1);
            }
        }
        return seen;
    }

    static void same(int[] due, PageMarriages m) {
        int[] got = at(m);
        if (!Arrays.equals(due, got)) {
            throw new AssertionError("the state is " + Arrays.toString(got)
                + ", due is " + Arrays.toString(due));
        }
    }

    static void unchangedBy(PageMarriages m, Tally.Body body) {
        int[] before = at(m);
        int error = m.errorPosition();
        body.run();
        same(before, m);
        Tally.is("errorPosition()", error, m.errorPosition());
    }
}
