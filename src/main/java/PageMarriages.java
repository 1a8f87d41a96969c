/**
 * Memory in which small pages marry into big ones and divorce with their goods. The document
 * ../shared/DOC.md says what each method promises.
 */
public final class PageMarriages {
    /** There is no such result. */
    public static final int NONE = -1;

    private static final int PROCESSES = 4;
    private static final int PAGES = 16;
    private static final int GROUPS = 4;
    private static final int GROUP_SIZE = 4;
    private static final int FRAMES = 32;
    private static final int RUNS = 8;
    private static final int VALUES = 100;
    private static final int TEXT_LIMIT = 100;
    private static final int REMEMBERED_LIMIT = 14;
    private static final int SLOTS = 2;

    private static final int ALONE = 0;
    private static final int FAULT = 1;
    private static final int COPY = 2;
    private static final int COPY_AND_TEAR = 3;

    private static final int CAN_MARRY = 0;
    private static final int IS_BIG = 1;
    private static final int LACKS_FRAME = 2;
    private static final int HAS_SHARED_FRAME = 3;
    private static final int LACKS_RUN = 4;

    private static final int COMMANDS = 3;
    private static final int COMMAND_BASE = 100000;
    private static final int STEPS = 99;
    private static final int COUNT_LIMIT = 999;

    private final Story story;
    private final Memory present;
    /** The copy of the state on which everything is done that must not change it. */
    private final Memory trial;
    private final History history;
    private final Memory[] slots;
    private final boolean[] filled;

    /** Creates a memory with the process 0. */
    public PageMarriages() {
        story = new Story();
        present = new Memory();
        trial = new Memory();
        history = new History();
        slots = new Memory[SLOTS];
        for (int slot = 0; slot < SLOTS; slot++) {
            slots[slot] = new Memory();
        }
        filled = new boolean[SLOTS];
    }

    // ---- text

    /** Appends a character to the text buffer; returns the new length. */
    public int append(int c) throws IllegalArgumentException, IllegalStateException {
        if (c < 0 || c > 255) {
            throw new IllegalArgumentException("no such character");
        }
        if (story.length() >= TEXT_LIMIT) {
            throw new IllegalStateException("the text is full");
        }
        return story.add((char) c);
    }

    /** Empties the text buffer; returns the previous length. */
    public int clearText() {
        return story.empty();
    }

    /** Returns the error position of the text; NONE if it is a story. */
    public int errorPosition() {
        return story.firstError();
    }

    /** Starts anew and does the commands of the text; returns how many are left out. */
    public int load() throws IllegalStateException {
        if (story.firstError() != NONE) {
            throw new IllegalStateException("the text is not a story");
        }
        present.beginAnew();
        history.forget();
        for (int slot = 0; slot < SLOTS; slot++) {
            filled[slot] = false;
        }
        int leftOut = 0;
        for (int at = 1; at < story.length(); at++) {
            if (Story.digitsBehind(story.sign(at)) != NONE && !doCommandOfText(at)) {
                leftOut++;
            }
        }
        return leftOut;
    }

    // ---- what there is

    /** Returns a number about the whole memory. */
    public int about(int what) throws IllegalArgumentException {
        switch (what) {
            case 0:
                return present.processes();
            case 1:
                return present.freeFrames();
            case 2:
                return present.freeRuns();
            case 3:
                return present.bigGroups();
            case 4:
                return present.widows();
            case 5:
                return present.sharedFrames();
            case 6:
                return present.copies;
            case 7:
                return present.faults;
            case 8:
                return present.tears;
            case 9:
                return present.losses;
            case 10:
                return present.eager ? 1 : 0;
            default:
                throw new IllegalArgumentException("no such number of the memory");
        }
    }

    /** Returns a number of a page. */
    public int page(int p, int v, int what)
            throws IndexOutOfBoundsException, IllegalArgumentException {
        requirePage(p, v);
        switch (what) {
            case 0:
                return present.frameOf(p, v);
            case 1:
                return present.valueOf(p, v);
            case 2:
                return present.usersOfFrameOf(p, v);
            case 3:
                return present.isBig(p, v / GROUP_SIZE) ? 1 : 0;
            default:
                throw new IllegalArgumentException("no such number of a page");
        }
    }

    /** Returns 100 * process + page for the page with the place i among the users of a frame. */
    public int user(int f, int i) throws IndexOutOfBoundsException, IllegalArgumentException {
        if (f < 0 || f >= FRAMES) {
            throw new IndexOutOfBoundsException("no such frame");
        }
        if (i < 0) {
            throw new IllegalArgumentException("no such place");
        }
        return present.userAt(f, i);
    }

    /** Returns a number of a group. */
    public int group(int p, int g, int what)
            throws IndexOutOfBoundsException, IllegalArgumentException {
        requireGroup(p, g);
        switch (what) {
            case 0:
                return present.pagesWithFrame(p, g);
            case 1:
                return present.isBig(p, g) ? 1 : 0;
            case 2:
                return present.isWidow(p, g) ? 1 : 0;
            case 3:
                return present.pagesWithSharedFrame(p, g);
            case 4:
                return present.runOf(p, g);
            default:
                throw new IllegalArgumentException("no such number of a group");
        }
    }

    // ---- actions

    /** Writes a value to a page; returns 0, 1 (fault), 2 (copy) or 3 (copy and tear). */
    public int write(int p, int v, int value)
            throws IndexOutOfBoundsException, IllegalArgumentException, IllegalStateException {
        requirePage(p, v);
        if (value < 0 || value >= VALUES) {
            throw new IllegalArgumentException("no such value");
        }
        if (present.outcomeOfWrite(p, v) == NONE) {
            throw new IllegalStateException("no frame is free");
        }
        history.remember(present);
        return present.doWrite(p, v, value);
    }

    /** Forks a process; returns the number of the new one. */
    public int fork(int p) throws IndexOutOfBoundsException, IllegalStateException {
        requireProcess(p);
        if (!present.canFork(p)) {
            throw new IllegalStateException("no process number is left");
        }
        history.remember(present);
        return present.doFork(p);
    }

    /** Ends a process; returns how many frames become free. */
    public int exit(int p) throws IndexOutOfBoundsException, IllegalStateException {
        requireProcess(p);
        if (!present.canExit(p)) {
            throw new IllegalStateException("it is the only process");
        }
        history.remember(present);
        return present.doExit(p);
    }

    /** Lets a group marry; returns the copies that are made, 0 or 4. */
    public int marry(int p, int g) throws IndexOutOfBoundsException, IllegalStateException {
        requireGroup(p, g);
        if (present.obstacleToMarriage(p, g) != CAN_MARRY) {
            throw new IllegalStateException("the group cannot marry");
        }
        history.remember(present);
        return present.doMarry(p, g);
    }

    /** Tears a big group; returns its run. */
    public int tear(int p, int g) throws IndexOutOfBoundsException, IllegalStateException {
        requireGroup(p, g);
        if (!present.isBig(p, g)) {
            throw new IllegalStateException("the group is not big");
        }
        history.remember(present);
        return present.doTear(p, g);
    }

    /** Puts the memory under pressure; returns the number of free frames then. */
    public int press(int n) throws IllegalArgumentException {
        if (n < 1 || n > FRAMES) {
            throw new IllegalArgumentException("no such number of frames");
        }
        history.remember(present);
        return present.doPress(n);
    }

    /** Makes the memory eager, or not; returns the number of free runs. */
    public int setEager(boolean is) {
        history.remember(present);
        present.eager = is;
        return present.freeRuns();
    }

    /** Takes back the last action that is remembered; returns how many still are. */
    public int undo() throws IllegalStateException {
        if (history.size() == 0) {
            throw new IllegalStateException("no state is remembered");
        }
        history.takeBack(present);
        return history.size();
    }

    // ---- what would be

    /** Tells why a group cannot marry; 0 if it can. */
    public int whyNot(int p, int g) throws IndexOutOfBoundsException {
        requireGroup(p, g);
        return present.obstacleToMarriage(p, g);
    }

    /** Tells what write would return; NONE if it is not possible. */
    public int wouldDo(int p, int v) throws IndexOutOfBoundsException {
        requirePage(p, v);
        return present.outcomeOfWrite(p, v);
    }

    /** Counts how many groups could marry one after the other. */
    public int marriages() {
        trial.copyFrom(present);
        int count = 0;
        while (count < PROCESSES * GROUPS && trial.marryNext()) {
            count++;
        }
        return count;
    }

    /** Returns the number of free frames behind press(32). */
    public int mostFree() {
        trial.copyFrom(present);
        return trial.doPress(FRAMES);
    }

    /** Tells how many pages of a process could be written to until it is not possible. */
    public int writable(int p) throws IndexOutOfBoundsException {
        requireProcess(p);
        trial.copyFrom(present);
        int count = 0;
        while (count < PAGES && trial.doWrite(p, count, 1) != NONE) {
            count++;
        }
        return count;
    }

    // ---- scripts, simulations

    /** Runs a script on a copy; returns the index of the first command that fails, or NONE. */
    public int runScript(int n, long script) throws IllegalArgumentException {
        if (n < 1 || n > COMMANDS) {
            throw new IllegalArgumentException("no such number of commands");
        }
        if (script < 0 || withoutLastCommands(script, n) != 0) {
            throw new IllegalArgumentException("no such script");
        }
        trial.copyFrom(present);
        for (int index = 0; index < n; index++) {
            long upToThis = withoutLastCommands(script, n - 1 - index);
            if (!doCommandOfScript((int) (upToThis % COMMAND_BASE))) {
                return index;
            }
        }
        return NONE;
    }

    /** Simulates m steps on a copy; returns 1000 * copies + tears, 999 at most of each. */
    public int simulate(long seed, int m) throws IllegalArgumentException {
        if (m < 1 || m > STEPS) {
            throw new IllegalArgumentException("no such number of steps");
        }
        trial.copyFrom(present);
        long x = seed;
        for (int step = 0; step < m; step++) {
            x = x * 6364136223846793005L + 1442695040888963407L;
            doStep((int) (x >>> 33));
        }
        int copies = Math.min(COUNT_LIMIT, trial.copies - present.copies);
        int tears = Math.min(COUNT_LIMIT, trial.tears - present.tears);
        return 1000 * copies + tears;
    }

    // ---- save slots

    /** Stores the present state in a save slot; returns the number of free frames. */
    public int save(int slot) throws IndexOutOfBoundsException {
        requireSlot(slot);
        slots[slot].copyFrom(present);
        filled[slot] = true;
        return present.freeFrames();
    }

    /** Replaces the state by the one in a save slot; returns the number of free frames then. */
    public int restore(int slot) throws IndexOutOfBoundsException, IllegalStateException {
        requireSlot(slot);
        if (!filled[slot]) {
            throw new IllegalStateException("nothing has been saved in this slot");
        }
        present.copyFrom(slots[slot]);
        history.forget();
        return present.freeFrames();
    }

    // ---- what a call must name

    private void requireProcess(int p) {
        if (!present.hasProcess(p)) {
            throw new IndexOutOfBoundsException("no such process");
        }
    }

    private void requirePage(int p, int v) {
        if (!present.hasPage(p, v)) {
            throw new IndexOutOfBoundsException("no such process or page");
        }
    }

    private void requireGroup(int p, int g) {
        if (!present.hasGroup(p, g)) {
            throw new IndexOutOfBoundsException("no such process or group");
        }
    }

    private void requireSlot(int slot) {
        if (slot < 0 || slot >= SLOTS) {
            throw new IndexOutOfBoundsException("no such save slot");
        }
    }

    // ---- commands of texts, scripts and simulations

    /** Does the command that begins at this place of the text; false if it is left out. */
    private boolean doCommandOfText(int at) {
        int p = story.digit(at + 1);
        switch (story.sign(at)) {
            case 'w':
                return present.doWrite(p, story.number(at + 2), story.number(at + 4)) != NONE;
            case 'f':
                return present.doFork(p) != NONE;
            case 'x':
                return present.doExit(p) != NONE;
            case 'm':
                return present.doMarry(p, story.digit(at + 2)) != NONE;
            case 'e':
                present.eager = true;
                return true;
            default:
                return false;
        }
    }

    private static long withoutLastCommands(long script, int count) {
        long rest = script;
        for (int i = 0; i < count; i++) {
            rest = rest / COMMAND_BASE;
        }
        return rest;
    }

    /** Does five digits of a script on the copy; false if they fail. */
    private boolean doCommandOfScript(int digits) {
        int kind = digits / 10000;
        int p = digits / 1000 % 10;
        int g = digits / 100 % 10;
        int v = digits / 10 % 100;
        int x = digits % 10;
        int lastTwo = digits % 100;
        int lastThree = digits % 1000;
        int lastFour = digits % 10000;
        switch (kind) {
            case 1:
                return trial.doWrite(p, v, x) != NONE;
            case 2:
                return lastThree == 0 && trial.doFork(p) != NONE;
            case 3:
                return lastThree == 0 && trial.doExit(p) != NONE;
            case 4:
                return lastTwo == 0 && trial.doMarry(p, g) != NONE;
            case 5:
                return lastTwo == 0 && trial.doTear(p, g) != NONE;
            case 6:
                return lastFour < 100 && trial.doPress(lastTwo) != NONE;
            case 7:
                return trial.hasPage(p, v) && trial.valueOf(p, v) == x;
            case 8:
                return lastTwo <= 1 && trial.hasGroup(p, g)
                    && trial.isBig(p, g) == (lastTwo == 1);
            case 9:
                return lastFour < 100 && trial.freeFrames() >= lastTwo;
            default:
                return false;
        }
    }

    /** Does one step of a simulation on the copy; what is not possible is left out. */
    private void doStep(int r) {
        int p = r / 16 % PROCESSES;
        if (!trial.hasProcess(p)) {
            return;
        }
        switch (r % 8) {
            case 0:
                trial.doFork(p);
                break;
            case 1:
                trial.doExit(p);
                break;
            case 2:
                trial.doMarry(p, r / 64 % GROUPS);
                break;
            case 3:
                trial.doPress(1 + r / 64 % 8);
                break;
            default:
                trial.doWrite(p, r / 64 % PAGES, r / 1024 % VALUES);
                break;
        }
    }

    /** The text buffer, and the rules of a story. */
    private static final class Story {
        private final char[] signs = new char[TEXT_LIMIT];
        private int length;

        int length() {
            return length;
        }

        int add(char c) {
            if (length < TEXT_LIMIT) {
                signs[length] = c;
                length++;
            }
            return length;
        }

        int empty() {
            int before = length;
            length = 0;
            return before;
        }

        /** The sign at a place; the sign 0, which no story has, behind the text. */
        char sign(int at) {
            return at >= 0 && at < length ? signs[at] : (char) 0;
        }

        int digit(int at) {
            char c = sign(at);
            return c >= '0' && c <= '9' ? c - '0' : NONE;
        }

        /** The number that two digits write; negative if they are none. */
        int number(int at) {
            int tens = digit(at);
            int units = digit(at + 1);
            return tens == NONE || units == NONE ? NONE : 10 * tens + units;
        }

        /** How many digits a command with this letter has; NONE if no command has it. */
        static int digitsBehind(char letter) {
            switch (letter) {
                case 'w':
                    return 5;
                case 'm':
                    return 2;
                case 'f':
                case 'x':
                    return 1;
                case 'e':
                    return 0;
                default:
                    return NONE;
            }
        }

        int firstError() {
            if (sign(0) != 'M') {
                return 0;
            }
            int begin = 0;
            int digitsLeft = 0;
            for (int at = 1; at < length; at++) {
                if (digitsLeft > 0) {
                    if (!isAllowedDigit(begin, at)) {
                        return at;
                    }
                    digitsLeft--;
                } else {
                    begin = at;
                    digitsLeft = digitsBehind(sign(at));
                    if (digitsLeft == NONE) {
                        return at;
                    }
                }
            }
            return digitsLeft > 0 ? length : NONE;
        }

        private boolean isAllowedDigit(int begin, int at) {
            int digit = digit(at);
            return digit != NONE && digit <= highestDigit(begin, at);
        }

        private int highestDigit(int begin, int at) {
            int place = at - begin;
            if (sign(begin) != 'w' || place == 1) {
                return 3;
            }
            if (place == 2) {
                return 1;
            }
            return place == 3 && sign(at - 1) == '1' ? 5 : 9;
        }
    }

    /** The states that undo can bring back, in a ring. */
    private static final class History {
        private final Memory[] ring = new Memory[REMEMBERED_LIMIT];
        private int next;
        private int size;

        History() {
            for (int i = 0; i < REMEMBERED_LIMIT; i++) {
                ring[i] = new Memory();
            }
        }

        int size() {
            return size;
        }

        void forget() {
            size = 0;
        }

        void remember(Memory state) {
            ring[next].copyFrom(state);
            next = (next + 1) % REMEMBERED_LIMIT;
            size = Math.min(size + 1, REMEMBERED_LIMIT);
        }

        void takeBack(Memory state) {
            if (size > 0) {
                next = (next + REMEMBERED_LIMIT - 1) % REMEMBERED_LIMIT;
                size--;
                state.copyFrom(ring[next]);
            }
        }
    }

    /**
     * One state of the memory. The methods whose names begin with "do" change it; they answer NONE
     * and change nothing where the method of the face would throw an exception.
     */
    private static final class Memory {
        /** The pages of a process that does not exist have no frames. */
        private final int[] frames = new int[PROCESSES * PAGES];
        private final int[] users = new int[FRAMES];
        private final int[] values = new int[FRAMES];
        /** Bit p is set for the process p. */
        private int processes;
        /** Bit GROUPS * p + g is set if the group g of the process p is big. */
        private int bigs;
        boolean eager;
        int copies;
        int faults;
        int tears;
        int losses;

        Memory() {
            beginAnew();
        }

        void beginAnew() {
            for (int i = 0; i < PROCESSES * PAGES; i++) {
                frames[i] = NONE;
            }
            for (int f = 0; f < FRAMES; f++) {
                users[f] = 0;
                values[f] = 0;
            }
            processes = 1;
            bigs = 0;
            eager = false;
            copies = 0;
            faults = 0;
            tears = 0;
            losses = 0;
        }

        void copyFrom(Memory other) {
            System.arraycopy(other.frames, 0, frames, 0, PROCESSES * PAGES);
            System.arraycopy(other.users, 0, users, 0, FRAMES);
            System.arraycopy(other.values, 0, values, 0, FRAMES);
            processes = other.processes;
            bigs = other.bigs;
            eager = other.eager;
            copies = other.copies;
            faults = other.faults;
            tears = other.tears;
            losses = other.losses;
        }

        // ---- what there is

        boolean hasProcess(int p) {
            return p >= 0 && p < PROCESSES && (processes >> p & 1) == 1;
        }

        boolean hasPage(int p, int v) {
            return hasProcess(p) && v >= 0 && v < PAGES;
        }

        boolean hasGroup(int p, int g) {
            return hasProcess(p) && g >= 0 && g < GROUPS;
        }

        int processes() {
            return processes;
        }

        int freeFrames() {
            int count = 0;
            for (int f = 0; f < FRAMES; f++) {
                if (users[f] == 0) {
                    count++;
                }
            }
            return count;
        }

        int sharedFrames() {
            int count = 0;
            for (int f = 0; f < FRAMES; f++) {
                if (isShared(f)) {
                    count++;
                }
            }
            return count;
        }

        int freeRuns() {
            int count = 0;
            for (int run = 0; run < RUNS; run++) {
                if (isRunFree(run)) {
                    count++;
                }
            }
            return count;
        }

        int bigGroups() {
            return Integer.bitCount(bigs);
        }

        int widows() {
            int count = 0;
            for (int p = 0; p < PROCESSES; p++) {
                for (int g = 0; g < GROUPS; g++) {
                    if (isWidow(p, g)) {
                        count++;
                    }
                }
            }
            return count;
        }

        int frameOf(int p, int v) {
            boolean canExist = p >= 0 && p < PROCESSES && v >= 0 && v < PAGES;
            return canExist ? frames[PAGES * p + v] : NONE;
        }

        int valueOf(int p, int v) {
            int f = frameOf(p, v);
            return f == NONE ? NONE : values[f];
        }

        int usersOfFrameOf(int p, int v) {
            int f = frameOf(p, v);
            return f == NONE ? NONE : users[f];
        }

        int userAt(int f, int place) {
            int before = 0;
            for (int p = 0; p < PROCESSES; p++) {
                for (int v = 0; v < PAGES; v++) {
                    if (frameOf(p, v) == f) {
                        if (before == place) {
                            return 100 * p + v;
                        }
                        before++;
                    }
                }
            }
            return NONE;
        }

        boolean isBig(int p, int g) {
            boolean canExist = p >= 0 && p < PROCESSES && g >= 0 && g < GROUPS;
            return canExist && (bigs >> GROUPS * p + g & 1) == 1;
        }

        int runOf(int p, int g) {
            return isBig(p, g) ? frameOf(p, GROUP_SIZE * g) / GROUP_SIZE : NONE;
        }

        boolean isWidow(int p, int g) {
            return isBig(p, g) && pagesWithSharedFrame(p, g) > 0
                && bigGroupsInRun(runOf(p, g)) == 1;
        }

        private int bigGroupsInRun(int run) {
            int count = 0;
            for (int p = 0; p < PROCESSES; p++) {
                for (int g = 0; g < GROUPS; g++) {
                    if (runOf(p, g) == run) {
                        count++;
                    }
                }
            }
            return count;
        }

        int pagesWithFrame(int p, int g) {
            int count = 0;
            for (int i = 0; i < GROUP_SIZE; i++) {
                if (frameOf(p, GROUP_SIZE * g + i) != NONE) {
                    count++;
                }
            }
            return count;
        }

        int pagesWithSharedFrame(int p, int g) {
            int count = 0;
            for (int i = 0; i < GROUP_SIZE; i++) {
                if (isShared(frameOf(p, GROUP_SIZE * g + i))) {
                    count++;
                }
            }
            return count;
        }

        private int pagesWithValueZero(int p, int g) {
            int count = 0;
            for (int i = 0; i < GROUP_SIZE; i++) {
                if (valueOf(p, GROUP_SIZE * g + i) == 0) {
                    count++;
                }
            }
            return count;
        }

        private boolean isShared(int f) {
            return f != NONE && users[f] > 1;
        }

        private boolean isRunFree(int run) {
            for (int i = 0; i < GROUP_SIZE; i++) {
                if (users[GROUP_SIZE * run + i] > 0) {
                    return false;
                }
            }
            return true;
        }

        private int lowestFreeRun() {
            for (int run = 0; run < RUNS; run++) {
                if (isRunFree(run)) {
                    return run;
                }
            }
            return NONE;
        }

        private int lowestSingleFrame() {
            int lowestFree = NONE;
            for (int f = 0; f < FRAMES; f++) {
                if (users[f] == 0) {
                    if (!isRunFree(f / GROUP_SIZE)) {
                        return f;
                    }
                    if (lowestFree == NONE) {
                        lowestFree = f;
                    }
                }
            }
            return lowestFree;
        }

        // ---- pages and their frames

        private void takeFrame(int p, int v, int f) {
            frames[PAGES * p + v] = f;
            users[f]++;
        }

        /** Answers how many frames become free by it, 0 or 1. */
        private int letGo(int p, int v) {
            int f = frameOf(p, v);
            if (f == NONE) {
                return 0;
            }
            frames[PAGES * p + v] = NONE;
            users[f]--;
            return users[f] == 0 ? 1 : 0;
        }

        private void becomeBig(int p, int g) {
            bigs |= 1 << GROUPS * p + g;
        }

        private void becomeSmall(int p, int g) {
            bigs &= ~(1 << GROUPS * p + g);
        }

        private void becomeTorn(int p, int g) {
            becomeSmall(p, g);
            tears++;
        }

        // ---- writing

        int outcomeOfWrite(int p, int v) {
            if (!hasPage(p, v)) {
                return NONE;
            }
            int f = frameOf(p, v);
            if (f != NONE && !isShared(f)) {
                return ALONE;
            }
            if (freeFrames() == 0) {
                return NONE;
            }
            if (f == NONE) {
                return FAULT;
            }
            return isBig(p, v / GROUP_SIZE) ? COPY_AND_TEAR : COPY;
        }

        int doWrite(int p, int v, int value) {
            int outcome = outcomeOfWrite(p, v);
            if (outcome == NONE || value < 0 || value >= VALUES) {
                return NONE;
            }
            if (outcome == FAULT) {
                bringIn(p, v);
            } else if (outcome != ALONE) {
                copyOut(p, v);
            }
            int f = frameOf(p, v);
            if (f != NONE) {
                values[f] = value;
            }
            return outcome;
        }

        private void bringIn(int p, int v) {
            int g = v / GROUP_SIZE;
            int run = lowestFreeRun();
            if (eager && run != NONE && pagesWithFrame(p, g) == 0) {
                bringInWhole(p, g, run);
            } else {
                takeSingleFrame(p, v);
            }
            faults++;
        }

        private void bringInWhole(int p, int g, int run) {
            for (int i = 0; i < GROUP_SIZE; i++) {
                int f = GROUP_SIZE * run + i;
                takeFrame(p, GROUP_SIZE * g + i, f);
                values[f] = 0;
            }
            becomeBig(p, g);
        }

        private void copyOut(int p, int v) {
            int g = v / GROUP_SIZE;
            if (isBig(p, g)) {
                becomeTorn(p, g);
            }
            takeSingleFrame(p, v);
            copies++;
        }

        /** The new frame is chosen while the page still holds its old one. */
        private void takeSingleFrame(int p, int v) {
            int f = lowestSingleFrame();
            if (f != NONE) {
                letGo(p, v);
                takeFrame(p, v, f);
            }
        }

        // ---- processes

        private int lowestUnusedProcess() {
            for (int p = 0; p < PROCESSES; p++) {
                if (!hasProcess(p)) {
                    return p;
                }
            }
            return NONE;
        }

        boolean canFork(int p) {
            return hasProcess(p) && lowestUnusedProcess() != NONE;
        }

        int doFork(int p) {
            int child = lowestUnusedProcess();
            if (!hasProcess(p) || child == NONE) {
                return NONE;
            }
            processes |= 1 << child;
            for (int v = 0; v < PAGES; v++) {
                int f = frameOf(p, v);
                if (f != NONE) {
                    takeFrame(child, v, f);
                }
            }
            for (int g = 0; g < GROUPS; g++) {
                if (isBig(p, g)) {
                    becomeBig(child, g);
                }
            }
            return child;
        }

        boolean canExit(int p) {
            return hasProcess(p) && Integer.bitCount(processes) > 1;
        }

        int doExit(int p) {
            if (!canExit(p)) {
                return NONE;
            }
            int freed = 0;
            for (int v = 0; v < PAGES; v++) {
                freed += letGo(p, v);
            }
            for (int g = 0; g < GROUPS; g++) {
                becomeSmall(p, g);
            }
            processes &= ~(1 << p);
            return freed;
        }

        // ---- marrying and tearing

        int obstacleToMarriage(int p, int g) {
            if (isBig(p, g)) {
                return IS_BIG;
            }
            if (pagesWithFrame(p, g) < GROUP_SIZE) {
                return LACKS_FRAME;
            }
            if (pagesWithSharedFrame(p, g) > 0) {
                return HAS_SHARED_FRAME;
            }
            return isInPlace(p, g) || lowestFreeRun() != NONE ? CAN_MARRY : LACKS_RUN;
        }

        private boolean isInPlace(int p, int g) {
            int first = frameOf(p, GROUP_SIZE * g);
            if (first == NONE || first % GROUP_SIZE != 0) {
                return false;
            }
            for (int i = 1; i < GROUP_SIZE; i++) {
                if (frameOf(p, GROUP_SIZE * g + i) != first + i) {
                    return false;
                }
            }
            return true;
        }

        int doMarry(int p, int g) {
            if (!hasGroup(p, g) || obstacleToMarriage(p, g) != CAN_MARRY) {
                return NONE;
            }
            int made = isInPlace(p, g) ? 0 : moveTo(p, g, lowestFreeRun());
            becomeBig(p, g);
            copies += made;
            return made;
        }

        private int moveTo(int p, int g, int run) {
            if (run == NONE) {
                return 0;
            }
            for (int i = 0; i < GROUP_SIZE; i++) {
                int v = GROUP_SIZE * g + i;
                int f = GROUP_SIZE * run + i;
                values[f] = valueOf(p, v);
                letGo(p, v);
                takeFrame(p, v, f);
            }
            return GROUP_SIZE;
        }

        /** Lets the group marry whose turn it is in marriages(); false if there is none. */
        boolean marryNext() {
            int next = NONE;
            for (int i = 0; i < PROCESSES * GROUPS; i++) {
                int p = i / GROUPS;
                int g = i % GROUPS;
                if (hasProcess(p) && obstacleToMarriage(p, g) == CAN_MARRY) {
                    if (isInPlace(p, g)) {
                        return doMarry(p, g) != NONE;
                    }
                    if (next == NONE) {
                        next = i;
                    }
                }
            }
            return next != NONE && doMarry(next / GROUPS, next % GROUPS) != NONE;
        }

        int doTear(int p, int g) {
            int run = runOf(p, g);
            if (run != NONE) {
                becomeTorn(p, g);
            }
            return run;
        }

        // ---- pressure

        int doPress(int n) {
            if (n < 1 || n > FRAMES) {
                return NONE;
            }
            // A round takes a page's frame or tears a group, and nothing gives these back.
            int rounds = PROCESSES * PAGES + PROCESSES * GROUPS;
            for (int round = 0; round < rounds && freeFrames() < n; round++) {
                if (!loseFirstPage() && !tearEmptiestGroup()) {
                    break;
                }
            }
            return freeFrames();
        }

        private boolean loseFirstPage() {
            for (int i = 0; i < PROCESSES * PAGES; i++) {
                int p = i / PAGES;
                int v = i % PAGES;
                if (!isBig(p, v / GROUP_SIZE) && usersOfFrameOf(p, v) == 1
                        && valueOf(p, v) == 0) {
                    letGo(p, v);
                    losses++;
                    return true;
                }
            }
            return false;
        }

        private boolean tearEmptiestGroup() {
            int emptiest = NONE;
            int most = 0;
            for (int i = 0; i < PROCESSES * GROUPS; i++) {
                int p = i / GROUPS;
                int g = i % GROUPS;
                if (isBig(p, g) && pagesWithSharedFrame(p, g) == 0
                        && pagesWithValueZero(p, g) > most) {
                    most = pagesWithValueZero(p, g);
                    emptiest = i;
                }
            }
            if (emptiest == NONE) {
                return false;
            }
            becomeTorn(emptiest / GROUPS, emptiest % GROUPS);
            return true;
        }
    }
}
