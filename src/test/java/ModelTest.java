import java.util.List;
import java.util.Random;

/** Long runs of calls, made up from fixed seeds, on the program and on the plain model at once. */
public final class ModelTest {
    private static final int RUNS = 20000;
    // An object is promised for so many calls; the last of them ask for all that there is to see.
    private static final int CALLS = 512;
    private static final int MOST_ASKED_AT_LAST = 1 + 10 * 7 + 10 * 10 + 3 * 12;
    private static final int MOST_AT_ONCE = 3;
    private static final int[][][] met = new int[12][6][5];

    private final Random random;
    private final CommitSites program = new CommitSites();
    private final Model model = new Model();
    private final StringBuilder told = new StringBuilder();
    private final int most;
    private final boolean rough;
    private final boolean cutting;
    private final boolean crowding;
    private int sites;
    private int calls;

    private ModelTest(long seed) {
        random = new Random(seed);
        most = 1 + random.nextInt(8);
        rough = random.nextInt(3) == 0;
        cutting = random.nextInt(3) == 0;
        crowding = random.nextInt(20) == 0;
    }

    public static void main(String[] args) {
        Runs runs = new Runs("ModelTest");
        for (long seed = 1; seed <= RUNS; seed++) {
            ModelTest test = new ModelTest(seed);
            runs.due("seed " + seed, test.differsAt(), -1);
        }
        if (args.length > 0) {
            printMet();
        }
        runs.end();
    }

    private int differsAt() {
        // Now and then a run ends early, so that all is asked for in every kind of midst.
        int end = random.nextInt(2) == 0 ? CALLS : MOST_ASKED_AT_LAST + MOST_AT_ONCE + random.nextInt(300);
        boolean same = true;
        while (same && calls <= end - MOST_ASKED_AT_LAST - MOST_AT_ONCE) {
            same = rough && random.nextInt(6) == 0 ? wrongInput() : usual();
        }
        same = same && sameInAll();
        if (!same || calls > CALLS) {
            System.out.println(told);
            return calls;
        }
        for (int a = 0; a < 12; a++) {
            for (int b = 0; b < 6; b++) {
                for (int c = 0; c < 5; c++) {
                    met[a][b][c] += model.met[a][b][c];
                }
            }
        }
        return -1;
    }

    private boolean same(String method, Integer... args) {
        calls++;
        int got = Runs.answer(program, method, List.of(args));
        int want = model.answer(method, List.of(args));
        boolean asks = List.of("of", "count", "latest", "weight", "delay", "check").contains(method);
        if (!asks || got != want) {
            told.append(method).append(List.of(args)).append(" answered ").append(got);
            told.append(", the model ").append(want).append('\n');
        }
        return got == want;
    }

    private boolean sameInAll() {
        boolean same = same("check");
        for (int i = -1; i <= sites; i++) {
            for (int what = 0; what < 7; what++) {
                same &= same("of", i, what);
            }
            for (int j = -1; j <= sites; j++) {
                same &= same("delay", i, j);
            }
        }
        for (int what = -1; what <= 10; what++) {
            same &= same("count", what) & same("latest", what) & same("weight", what);
        }
        return same;
    }

    private boolean allDecided() {
        int open = 0;
        for (int state = 0; state < 4; state++) {
            open += model.answer("weight", List.of(state));
        }
        return open == 0;
    }

    private int any() {
        return random.nextInt(Math.max(1, sites));
    }

    private boolean usual() {
        if (sites < most) {
            sites++;
            return same("site", 1 + random.nextInt(random.nextBoolean() ? 9 : 1));
        }
        if (crowding && random.nextInt(6) != 0) {
            int site = any();
            return same("crash", site) & same("recover", site);
        }
        if (cutting && random.nextInt(2) == 0) {
            int slow = random.nextInt(3) == 0 ? 20 - random.nextInt(8) : 1 + random.nextInt(4);
            return same("link", any(), any(), random.nextInt(2) == 0 ? 0 : slow);
        }
        if (random.nextInt(4) == 0 && allDecided()) {
            return same("reset") && same("part", 255, 1) && same("begin", any(), 255);
        }
        int weight = 1 + random.nextInt(9 * sites);
        int delay = random.nextInt(4) == 0 ? random.nextInt(21) : random.nextInt(4);
        int mostly = random.nextInt(4) == 0 ? random.nextInt(256) : 255;
        return switch (random.nextInt(36)) {
            case 0 -> same("quorums", weight, 1 + random.nextInt(9 * sites));
            case 1 -> same("patience", 5 + random.nextInt(random.nextInt(3) == 0 ? 96 : 8));
            case 2, 3, 4 -> same("link", any(), any(), delay);
            case 5 -> same("part", random.nextInt(256), Math.max(1, delay));
            case 6 -> same("part", 255, Math.max(1, delay));
            case 7, 8 -> same("begin", any(), mostly);
            case 9, 10 -> same("crash", any());
            case 11, 12, 13 -> same("recover", any());
            case 14, 15, 16, 17 -> same("run", random.nextInt(4));
            case 18, 19 -> same("run", random.nextInt(40));
            case 20 -> random.nextInt(5) != 0 || same("run", random.nextInt(501));
            case 21 -> random.nextInt(6) != 0 || same("reset") && same("begin", any(), mostly);
            case 22, 23, 24 -> same("of", any(), random.nextInt(7));
            case 25 -> same("latest", random.nextInt(5));
            case 26 -> same("count", random.nextInt(10));
            default -> same("step");
        };
    }

    private int odd() {
        int[] odds = {Integer.MIN_VALUE, -2, -1, 0, 1, 7, 8, 9, 10, 20, 21, 100, 101, 501, Integer.MAX_VALUE};
        return odds[random.nextInt(odds.length)];
    }

    private boolean wrongInput() {
        return switch (random.nextInt(14)) {
            case 0 -> same("of", odd(), odd());
            case 1 -> same("count", odd());
            case 2 -> same("latest", odd());
            case 3 -> same("weight", odd());
            case 4 -> same("delay", odd(), odd());
            case 5 -> same("quorums", odd(), odd());
            case 6 -> same("link", odd(), odd(), odd());
            case 7 -> same("part", odd(), odd());
            case 8 -> same("patience", odd());
            case 9 -> sites == 0 || same("begin", odd(), odd());
            case 10 -> same("crash", odd());
            case 11 -> same("recover", odd());
            case 12 -> same("run", odd());
            default -> sites < 8 || same("site", odd());
        };
    }

    private static void printMet() {
        for (int kind = 1; kind < 12; kind++) {
            for (int state = 0; state < 6; state++) {
                for (int does = 0; does < 5; does++) {
                    if (met[kind][state][does] > 0) {
                        System.out.println("kind " + kind + " state " + state + " does " + does + ": "
                            + met[kind][state][does]);
                    }
                }
            }
        }
    }
}
