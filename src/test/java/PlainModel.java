import java.util.ArrayList;
import java.util.HashSet;
import java.util.List;
import java.util.Set;
import java.util.TreeMap;

/**
 * A second reading of the document, written for clearness alone: what is shared, free or big is
 * worked out from the pages each time. Answers what the class should answer, and throws what it
 * should throw.
 */
final class PlainModel {
    /** One state; a page or group of a process is named by 100 * process + number. */
    private static final class State {
        final TreeMap<Integer, Integer> frameOfPage = new TreeMap<>();
        final TreeMap<Integer, Integer> valueOfFrame = new TreeMap<>();
        final Set<Integer> bigGroups = new HashSet<>();
        final Set<Integer> processes = new HashSet<>(Set.of(0));
        boolean eager;
        int copies;
        int faults;
        int tears;
        int losses;

        State copy() {
            State s = new State();
            s.frameOfPage.putAll(frameOfPage);
            s.valueOfFrame.putAll(valueOfFrame);
            s.bigGroups.addAll(bigGroups);
            s.processes.clear();
            s.processes.addAll(processes);
            s.eager = eager;
            s.copies = copies;
            s.faults = faults;
            s.tears = tears;
            s.losses = losses;
            return s;
        }

        List<Integer> users(int f) {
            List<Integer> users = new ArrayList<>();
            frameOfPage.forEach((page, frame) -> {
                if (frame == f) {
                    users.add(page);
                }
            });
            return users;
        }

        Integer frame(int p, int v) {
            return frameOfPage.get(100 * p + v);
        }

        boolean big(int p, int g) {
            return bigGroups.contains(100 * p + g);
        }

        boolean shared(int p, int v) {
            return frame(p, v) != null && users(frame(p, v)).size() > 1;
        }

        boolean zero(int p, int v) {
            return frame(p, v) != null && valueOfFrame.get(frame(p, v)) == 0;
        }

        List<Integer> free() {
            Set<Integer> used = new HashSet<>(frameOfPage.values());
            List<Integer> free = new ArrayList<>();
            for (int f = 0; f < 32; f++) {
                if (!used.contains(f)) {
                    free.add(f);
                }
            }
            return free;
        }

        List<Integer> freeRuns() {
            List<Integer> free = free();
            List<Integer> runs = new ArrayList<>();
            for (int k = 0; k < 8; k++) {
                if (free.containsAll(List.of(4 * k, 4 * k + 1, 4 * k + 2, 4 * k + 3))) {
                    runs.add(k);
                }
            }
            return runs;
        }

        Integer single() {
            List<Integer> runs = freeRuns();
            List<Integer> free = free();
            for (int f : free) {
                if (!runs.contains(f / 4)) {
                    return f;
                }
            }
            return free.isEmpty() ? null : free.get(0);
        }

        int count(int p, int g, PagePredicate predicate) {
            int count = 0;
            for (int v = 4 * g; v < 4 * g + 4; v++) {
                if (predicate.holds(p, v)) {
                    count++;
                }
            }
            return count;
        }

        int run(int p, int g) {
            return big(p, g) ? frame(p, 4 * g) / 4 : -1;
        }

        boolean widow(int p, int g) {
            if (!big(p, g) || count(p, g, this::shared) == 0) {
                return false;
            }
            for (int other : bigGroups) {
                if (other != 100 * p + g && run(other / 100, other % 100) == run(p, g)) {
                    return false;
                }
            }
            return true;
        }

        boolean inPlace(int p, int g) {
            for (int i = 0; i < 4; i++) {
                Integer f = frame(p, 4 * g + i);
                if (f == null || f % 4 != i || f / 4 != frame(p, 4 * g) / 4) {
                    return false;
                }
            }
            return true;
        }

        int write(int p, int v, int value) {
            int g = v / 4;
            int result;
            if (frame(p, v) == null) {
                if (eager && !freeRuns().isEmpty()
                        && count(p, g, (q, w) -> frame(q, w) != null) == 0) {
                    int k = freeRuns().get(0);
                    for (int i = 0; i < 4; i++) {
                        frameOfPage.put(100 * p + 4 * g + i, 4 * k + i);
                        valueOfFrame.put(4 * k + i, 0);
                    }
                    bigGroups.add(100 * p + g);
                } else {
                    Integer f = single();
                    if (f == null) {
                        throw new IllegalStateException();
                    }
                    frameOfPage.put(100 * p + v, f);
                }
                faults++;
                result = 1;
            } else if (shared(p, v)) {
                Integer f = single();
                if (f == null) {
                    throw new IllegalStateException();
                }
                result = 2;
                if (bigGroups.remove(100 * p + g)) {
                    tears++;
                    result = 3;
                }
                frameOfPage.put(100 * p + v, f);
                copies++;
            } else {
                result = 0;
            }
            valueOfFrame.put(frame(p, v), value);
            return result;
        }

        int fork(int p) {
            for (int q = 0; q < 4; q++) {
                if (!processes.contains(q)) {
                    processes.add(q);
                    for (int v = 0; v < 16; v++) {
                        if (frame(p, v) != null) {
                            frameOfPage.put(100 * q + v, frame(p, v));
                        }
                    }
                    for (int g = 0; g < 4; g++) {
                        if (big(p, g)) {
                            bigGroups.add(100 * q + g);
                        }
                    }
                    return q;
                }
            }
            throw new IllegalStateException();
        }

        int exit(int p) {
            if (processes.size() == 1) {
                throw new IllegalStateException();
            }
            int before = free().size();
            processes.remove(p);
            frameOfPage.keySet().removeIf(page -> page / 100 == p);
            bigGroups.removeIf(group -> group / 100 == p);
            return free().size() - before;
        }

        int whyNot(int p, int g) {
            if (big(p, g)) {
                return 1;
            }
            if (count(p, g, (q, w) -> frame(q, w) != null) < 4) {
                return 2;
            }
            if (count(p, g, this::shared) > 0) {
                return 3;
            }
            return !inPlace(p, g) && freeRuns().isEmpty() ? 4 : 0;
        }

        int marry(int p, int g) {
            if (whyNot(p, g) != 0) {
                throw new IllegalStateException();
            }
            int made = 0;
            if (!inPlace(p, g)) {
                int k = freeRuns().get(0);
                for (int i = 0; i < 4; i++) {
                    valueOfFrame.put(4 * k + i, valueOfFrame.get(frame(p, 4 * g + i)));
                    frameOfPage.put(100 * p + 4 * g + i, 4 * k + i);
                }
                made = 4;
            }
            bigGroups.add(100 * p + g);
            copies += made;
            return made;
        }

        int tear(int p, int g) {
            if (!big(p, g)) {
                throw new IllegalStateException();
            }
            int k = run(p, g);
            bigGroups.remove(100 * p + g);
            tears++;
            return k;
        }

        int press(int n) {
            if (n < 1 || n > 32) {
                throw new IllegalArgumentException();
            }
            while (free().size() < n) {
                Integer loser = null;
                for (int page : frameOfPage.keySet()) {
                    int p = page / 100;
                    int v = page % 100;
                    if (loser == null && !big(p, v / 4) && !shared(p, v) && zero(p, v)) {
                        loser = page;
                    }
                }
                if (loser != null) {
                    frameOfPage.remove(loser);
                    losses++;
                    continue;
                }
                int best = -1;
                int most = 0;
                for (int i = 0; i < 16; i++) {
                    int zeros = count(i / 4, i % 4, this::zero);
                    if (big(i / 4, i % 4) && count(i / 4, i % 4, this::shared) == 0
                            && zeros > most) {
                        most = zeros;
                        best = i;
                    }
                }
                if (best < 0) {
                    break;
                }
                bigGroups.remove(100 * (best / 4) + best % 4);
                tears++;
            }
            return free().size();
        }
    }

    private interface PagePredicate {
        boolean holds(int p, int v);
    }

    private State now = new State();
    private final List<State> remembered = new ArrayList<>();
    private final State[] slots = new State[2];
    private final StringBuilder text = new StringBuilder();

    private static void need(boolean exists) {
        if (!exists) {
            throw new IndexOutOfBoundsException();
        }
    }

    private static void argument(boolean inRange) {
        if (!inRange) {
            throw new IllegalArgumentException();
        }
    }

    private static void state(boolean isFine) {
        if (!isFine) {
            throw new IllegalStateException();
        }
    }

    private boolean process(int p) {
        return now.processes.contains(p);
    }

    private static boolean in(int x, int low, int high) {
        return x >= low && x <= high;
    }

    int append(int c) {
        argument(in(c, 0, 255));
        state(text.length() < 100);
        return text.append((char) c).length();
    }

    int clearText() {
        int length = text.length();
        text.setLength(0);
        return length;
    }

    /** The longest beginning that a story can have tells the error position. */
    int errorPosition() {
        String whole = text.toString();
        if (whole.matches(STORY)) {
            return -1;
        }
        for (int n = 1; n <= whole.length(); n++) {
            if (!beginsStory(whole.substring(0, n))) {
                return n - 1;
            }
        }
        return whole.length();
    }

    private static final String STORY =
        "M(w[0-3](0[0-9]|1[0-5])[0-9][0-9]|[fx][0-3]|m[0-3][0-3]|e)*";

    private static boolean beginsStory(String start) {
        for (String end : new String[] {"", "0", "00", "000", "0000", "00000"}) {
            if ((start + end).matches(STORY)) {
                return true;
            }
        }
        return false;
    }

    int load() {
        state(errorPosition() == -1);
        now = new State();
        remembered.clear();
        slots[0] = null;
        slots[1] = null;
        int leftOut = 0;
        for (String command : text.substring(1).split("(?=[wfxme])")) {
            if (!command.isEmpty() && !loadCommand(command)) {
                leftOut++;
            }
        }
        return leftOut;
    }

    private boolean loadCommand(String command) {
        if (command.equals("e")) {
            now.eager = true;
            return true;
        }
        int p = command.charAt(1) - '0';
        if (!process(p)) {
            return false;
        }
        try {
            switch (command.charAt(0)) {
                case 'w' -> now.write(p, Integer.parseInt(command.substring(2, 4)),
                    Integer.parseInt(command.substring(4)));
                case 'f' -> now.fork(p);
                case 'x' -> now.exit(p);
                default -> now.marry(p, command.charAt(2) - '0');
            }
            return true;
        } catch (IllegalStateException e) {
            return false;
        }
    }

    int about(int what) {
        argument(in(what, 0, 10));
        int processes = 0;
        for (int p : now.processes) {
            processes += 1 << p;
        }
        int widows = 0;
        for (int group : now.bigGroups) {
            widows += now.widow(group / 100, group % 100) ? 1 : 0;
        }
        int shared = 0;
        for (int f = 0; f < 32; f++) {
            shared += now.users(f).size() > 1 ? 1 : 0;
        }
        return new int[] {processes, now.free().size(), now.freeRuns().size(),
            now.bigGroups.size(), widows, shared, now.copies, now.faults, now.tears, now.losses,
            now.eager ? 1 : 0}[what];
    }

    int page(int p, int v, int what) {
        need(process(p) && in(v, 0, 15));
        argument(in(what, 0, 3));
        if (what == 3) {
            return now.big(p, v / 4) ? 1 : 0;
        }
        Integer f = now.frame(p, v);
        if (f == null) {
            return -1;
        }
        return what == 0 ? f : what == 1 ? now.valueOfFrame.get(f) : now.users(f).size();
    }

    int user(int f, int i) {
        need(in(f, 0, 31));
        argument(i >= 0);
        List<Integer> users = now.users(f);
        return i < users.size() ? users.get(i) : -1;
    }

    int group(int p, int g, int what) {
        need(process(p) && in(g, 0, 3));
        argument(in(what, 0, 4));
        switch (what) {
            case 0:
                return now.count(p, g, (q, w) -> now.frame(q, w) != null);
            case 1:
                return now.big(p, g) ? 1 : 0;
            case 2:
                return now.widow(p, g) ? 1 : 0;
            case 3:
                return now.count(p, g, now::shared);
            default:
                return now.run(p, g);
        }
    }

    private interface Change {
        int on(State s);
    }

    private int act(Change change) {
        State changed = now.copy();
        int result = change.on(changed);
        remembered.add(now);
        if (remembered.size() > 14) {
            remembered.remove(0);
        }
        now = changed;
        return result;
    }

    int write(int p, int v, int value) {
        need(process(p) && in(v, 0, 15));
        argument(in(value, 0, 99));
        return act(s -> s.write(p, v, value));
    }

    int fork(int p) {
        need(process(p));
        return act(s -> s.fork(p));
    }

    int exit(int p) {
        need(process(p));
        return act(s -> s.exit(p));
    }

    int marry(int p, int g) {
        need(process(p) && in(g, 0, 3));
        return act(s -> s.marry(p, g));
    }

    int tear(int p, int g) {
        need(process(p) && in(g, 0, 3));
        return act(s -> s.tear(p, g));
    }

    int press(int n) {
        return act(s -> s.press(n));
    }

    int setEager(boolean is) {
        return act(s -> {
            s.eager = is;
            return s.freeRuns().size();
        });
    }

    int undo() {
        state(!remembered.isEmpty());
        now = remembered.remove(remembered.size() - 1);
        return remembered.size();
    }

    int whyNot(int p, int g) {
        need(process(p) && in(g, 0, 3));
        return now.whyNot(p, g);
    }

    int wouldDo(int p, int v) {
        need(process(p) && in(v, 0, 15));
        try {
            return now.copy().write(p, v, 1);
        } catch (IllegalStateException e) {
            return -1;
        }
    }

    int marriages() {
        State s = now.copy();
        int count = 0;
        while (true) {
            int chosen = -1;
            for (int i = 15; i >= 0; i--) {
                if (s.whyNot(i / 4, i % 4) == 0) {
                    boolean replaces = chosen < 0 || s.inPlace(i / 4, i % 4)
                        || !s.inPlace(chosen / 4, chosen % 4);
                    chosen = replaces ? i : chosen;
                }
            }
            if (chosen < 0) {
                return count;
            }
            s.marry(chosen / 4, chosen % 4);
            count++;
        }
    }

    int mostFree() {
        return now.copy().press(32);
    }

    int writable(int p) {
        need(process(p));
        State s = now.copy();
        for (int v = 0; v < 16; v++) {
            try {
                s.write(p, v, 1);
            } catch (IllegalStateException e) {
                return v;
            }
        }
        return 16;
    }

    int runScript(int n, long script) {
        argument(in(n, 1, 3));
        argument(script >= 0 && Long.toString(script).length() <= 5 * n);
        String digits = String.format("%0" + 5 * n + "d", script);
        State s = now.copy();
        for (int i = 0; i < n; i++) {
            if (!scriptCommand(s, digits.substring(5 * i, 5 * i + 5))) {
                return i;
            }
        }
        return -1;
    }

    private static boolean scriptCommand(State s, String d) {
        int p = d.charAt(1) - '0';
        int g = d.charAt(2) - '0';
        int v = Integer.parseInt(d.substring(2, 4));
        int x = d.charAt(4) - '0';
        int xy = Integer.parseInt(d.substring(3));
        boolean isWell = d.matches("[17][0-9]{4}|[23][0-9]000|[45][0-9]{2}00|[69]00[0-9]{2}"
            + "|8[0-9]{2}0[01]");
        boolean exists = d.matches("[69].*") || s.processes.contains(p)
            && (d.matches("[23].*") || (d.matches("[17].*") ? v < 16 : g < 4));
        if (!isWell || !exists) {
            return false;
        }
        try {
            switch (d.charAt(0)) {
                case '1' -> s.write(p, v, x);
                case '2' -> s.fork(p);
                case '3' -> s.exit(p);
                case '4' -> s.marry(p, g);
                case '5' -> s.tear(p, g);
                case '6' -> s.press(xy);
                case '7' -> {
                    return s.frame(p, v) != null && s.valueOfFrame.get(s.frame(p, v)) == x;
                }
                case '8' -> {
                    return s.big(p, g) == (x == 1);
                }
                default -> {
                    return s.free().size() >= xy;
                }
            }
            return true;
        } catch (IllegalStateException | IllegalArgumentException e) {
            return false;
        }
    }

    int simulate(long seed, int m) {
        argument(in(m, 1, 99));
        State s = now.copy();
        long x = seed;
        for (int i = 0; i < m; i++) {
            x = x * 6364136223846793005L + 1442695040888963407L;
            int r = (int) (x >>> 33);
            int p = r / 16 % 4;
            if (!s.processes.contains(p)) {
                continue;
            }
            try {
                switch (r % 8) {
                    case 0 -> s.fork(p);
                    case 1 -> s.exit(p);
                    case 2 -> s.marry(p, r / 64 % 4);
                    case 3 -> s.press(1 + r / 64 % 8);
                    default -> s.write(p, r / 64 % 16, r / 1024 % 100);
                }
            } catch (IllegalStateException e) {
                // What is not possible is left out.
            }
        }
        return 1000 * Math.min(999, s.copies - now.copies) + Math.min(999, s.tears - now.tears);
    }

    int save(int slot) {
        need(in(slot, 0, 1));
        slots[slot] = now.copy();
        return now.free().size();
    }

    int restore(int slot) {
        need(in(slot, 0, 1));
        state(slots[slot] != null);
        now = slots[slot].copy();
        remembered.clear();
        return now.free().size();
    }
}
