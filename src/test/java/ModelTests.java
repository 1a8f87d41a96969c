import java.util.Random;

/** Long runs of calls, in which the class and the plain model must answer the same. */
final class ModelTests {
    private static final int RUNS = 1500;
    private static final int CALLS = 512;

    private ModelTests() {
    }

    static void run(Tally t) {
        for (Style style : Style.values()) {
            t.test("all promises in runs of the kind " + style, () -> {
                for (int i = 0; i < RUNS; i++) {
                    new Run(style, 1000L * i + style.ordinal()).go();
                }
            });
        }
    }

    /** What the calls of a run are apt to do. */
    private enum Style {
        /** All calls alike. */
        EVEN,
        /** Many processes and writes, so that frames become rare. */
        CROWDED,
        /** Many zeros, eagerness and pressure. */
        PRESSED,
        /** Many marriages and tears. */
        MARRIED,
        /** Many texts and loads. */
        TOLD
    }

    private interface Call {
        int answer();
    }

    private static final class Run {
        private final Style style;
        private final long seed;
        private final Random random;
        private final PageMarriages tested = new PageMarriages();
        private final PlainModel model = new PlainModel();
        private final StringBuilder log = new StringBuilder();
        private int done;

        Run(Style style, long seed) {
            this.style = style;
            this.seed = seed;
            this.random = new Random(seed);
        }

        /** What an object answers behind its call 512 is free. */
        void go() {
            while (done < CALLS) {
                step();
            }
        }

        private void step() {
            if (random.nextInt(100) < (style == Style.TOLD ? 50 : 4)) {
                text();
            } else if (random.nextInt(100) < 58) {
                act();
            } else {
                ask();
            }
        }

        private int some(int... values) {
            return values[random.nextInt(values.length)];
        }

        private int number(int limit) {
            if (random.nextInt(60) == 0) {
                return some(-1, limit, limit + 1, Integer.MIN_VALUE, Integer.MAX_VALUE, 33);
            }
            return random.nextInt(limit);
        }

        private int process() {
            return random.nextInt(8) == 0 ? number(4) : existing();
        }

        private int existing() {
            int bits = model.about(0);
            int p = random.nextInt(4);
            for (int i = 0; i < 4 && (bits >> p & 1) == 0; i++) {
                p = (p + 1) % 4;
            }
            return p;
        }

        private int value() {
            if (style == Style.PRESSED && random.nextInt(3) > 0) {
                return 0;
            }
            return random.nextInt(4) == 0 ? 0 : number(100);
        }

        private void check(String call, Call due, Call got) {
            if (done == CALLS) {
                return;
            }
            done++;
            String dueAnswer = told(due);
            String gotAnswer = told(got);
            log.append(call).append(" = ").append(dueAnswer).append('\n');
            if (!dueAnswer.equals(gotAnswer)) {
                String calls = log.toString();
                throw new AssertionError("run " + style + " " + seed + " answered " + gotAnswer
                    + " at the end of\n" + calls.substring(Math.max(0, calls.length() - 3000)));
            }
        }

        private static String told(Call call) {
            try {
                return Integer.toString(call.answer());
            } catch (RuntimeException e) {
                return e.getClass().getSimpleName();
            }
        }

        private void append(int c) {
            check("append(" + c + ")", () -> model.append(c), () -> tested.append(c));
        }

        private String command() {
            switch (random.nextInt(9)) {
                case 0:
                    return "f" + random.nextInt(4);
                case 1:
                    return "x" + random.nextInt(4);
                case 2:
                    return "m" + random.nextInt(4) + random.nextInt(4);
                case 3:
                    return "e";
                default:
                    return String.format("w%d%02d%02d", random.nextInt(2) * random.nextInt(4),
                        random.nextInt(16), value() & 63);
            }
        }

        private void text() {
            if (random.nextInt(4) > 0) {
                check("clearText()", model::clearText, tested::clearText);
                append('M');
            }
            for (int i = random.nextInt(6); i > 0; i--) {
                String command = command();
                for (int j = 0; j < command.length(); j++) {
                    boolean slips = random.nextInt(60) == 0;
                    append(slips ? some(-1, 256, 0, 255, ' ', '9', 'M', 'w', '1') : command.charAt(j));
                }
            }
            check("errorPosition()", model::errorPosition, tested::errorPosition);
            if (style == Style.TOLD || random.nextInt(3) == 0) {
                check("load()", model::load, tested::load);
            }
        }

        private void act() {
            int p = process();
            int v = number(16);
            int g = number(4);
            int value = value();
            int kind = random.nextInt(100);
            if (style == Style.MARRIED && kind < 50) {
                kind = 74 + random.nextInt(16);
            }
            if (style == Style.CROWDED && kind > 60) {
                kind = random.nextInt(70);
            }
            if (kind < 62) {
                check("write(" + p + ", " + v + ", " + value + ")",
                    () -> model.write(p, v, value), () -> tested.write(p, v, value));
            } else if (kind < 69) {
                check("fork(" + p + ")", () -> model.fork(p), () -> tested.fork(p));
            } else if (kind < 74) {
                check("exit(" + p + ")", () -> model.exit(p), () -> tested.exit(p));
            } else if (kind < 82) {
                check("marry(" + p + ", " + g + ")",
                    () -> model.marry(p, g), () -> tested.marry(p, g));
            } else if (kind < 86) {
                check("tear(" + p + ", " + g + ")",
                    () -> model.tear(p, g), () -> tested.tear(p, g));
            } else if (kind < 90) {
                int n = number(33);
                check("press(" + n + ")", () -> model.press(n), () -> tested.press(n));
            } else if (kind < 93) {
                boolean is = random.nextInt(3) > 0;
                check("setEager(" + is + ")", () -> model.setEager(is), () -> tested.setEager(is));
            } else if (kind < 97) {
                check("undo()", model::undo, tested::undo);
            } else {
                slot();
            }
        }

        private void slot() {
            int slot = number(2);
            if (random.nextBoolean()) {
                check("save(" + slot + ")", () -> model.save(slot), () -> tested.save(slot));
            } else {
                check("restore(" + slot + ")",
                    () -> model.restore(slot), () -> tested.restore(slot));
            }
        }

        private void ask() {
            int p = process();
            int v = number(16);
            int g = number(4);
            switch (random.nextInt(12)) {
                case 0 -> {
                    int f = number(32);
                    int i = number(5);
                    check("user(" + f + ", " + i + ")",
                        () -> model.user(f, i), () -> tested.user(f, i));
                }
                case 1, 2 -> {
                    int what = number(5);
                    check("group(" + p + ", " + g + ", " + what + ")",
                        () -> model.group(p, g, what), () -> tested.group(p, g, what));
                }
                case 3, 4 -> {
                    int what = number(4);
                    check("page(" + p + ", " + v + ", " + what + ")",
                        () -> model.page(p, v, what), () -> tested.page(p, v, what));
                }
                case 5 -> check("whyNot(" + p + ", " + g + ")",
                    () -> model.whyNot(p, g), () -> tested.whyNot(p, g));
                case 6 -> check("wouldDo(" + p + ", " + v + ")",
                    () -> model.wouldDo(p, v), () -> tested.wouldDo(p, v));
                case 7 -> check("marriages()", model::marriages, tested::marriages);
                case 8 -> check("writable(" + p + ")",
                    () -> model.writable(p), () -> tested.writable(p));
                case 9 -> script();
                case 10 -> {
                    check("mostFree()", model::mostFree, tested::mostFree);
                    long x = random.nextBoolean() ? random.nextLong() : random.nextInt(9) - 4;
                    int m = 1 + number(99);
                    check("simulate(" + x + ", " + m + ")",
                        () -> model.simulate(x, m), () -> tested.simulate(x, m));
                }
                default -> {
                    int what = number(11);
                    check("about(" + what + ")", () -> model.about(what), () -> tested.about(what));
                }
            }
        }

        private void script() {
            int n = 1 + number(3);
            long script = 0;
            for (int i = 0; i < Math.min(3, n); i++) {
                script = 100000 * script + digits();
            }
            if (random.nextInt(20) == 0) {
                script = random.nextLong() >> random.nextInt(64);
            }
            long all = script;
            check("runScript(" + n + ", " + all + ")",
                () -> model.runScript(n, all), () -> tested.runScript(n, all));
        }

        private int digits() {
            int p = 1000 * existing();
            int g = 100 * random.nextInt(4);
            int v = 10 * random.nextInt(16);
            int x = random.nextInt(10);
            switch (random.nextInt(11)) {
                case 0:
                    return random.nextInt(100000);
                case 1:
                    return 20000 + p;
                case 2:
                    return 30000 + p;
                case 3:
                    return 40000 + p + g;
                case 4:
                    return 50000 + p + g;
                case 5:
                    return 60000 + random.nextInt(34);
                case 6:
                    return 70000 + p + v + Math.max(0, Math.min(9, model.page(p / 1000, v / 10, 1)));
                case 7:
                    return 80000 + p + g + random.nextInt(2);
                case 8:
                    return 90000 + random.nextInt(33);
                default:
                    return 10000 + p + v + (random.nextBoolean() ? 0 : x);
            }
        }
    }
}
