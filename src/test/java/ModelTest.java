/** Long runs of mixed calls, each answered by the class and by PlainTrain; the digest is compared behind each call. */
public final class ModelTest {
    private static final int RUNS = 150;
    private static final int CALLS = 512;
    private static final String[] METHODS = {
        "setStation", "post", "hire", "assign", "tea", "letter", "sorter", "hole",
        "station", "count", "pass", "arrives", "foresee", "advise", "share", "digest",
    };
    // Posting and passing come more often: without them a run has little to tell.
    private static final int[] OFTEN = {4, 16, 2, 3, 3, 3, 2, 2, 2, 2, 10, 3, 3, 1, 1, 1};

    private static final Check check = new Check("ModelTest");

    private long seed;
    private final int step;

    private ModelTest(int run) {
        seed = run * 7919L + 17;
        step = new int[] {1, 2, 8, 300}[run % 4];
    }

    public static void main(String[] args) {
        int delivered = 0;
        int late = 0;
        for (int run = 0; run < RUNS; run++) {
            ModelTest test = new ModelTest(run);
            NightSorters train = new NightSorters();
            test.runCalls(run, train);
            delivered += train.count(7);
            late += train.count(8);
        }
        check.same("runs that deliver", delivered > 10 * RUNS ? 1 : 0, 1);
        check.same("runs with late letters", late > 10 * RUNS ? 1 : 0, 1);
        check.end();
    }

    private void runCalls(int run, NightSorters train) {
        PlainTrain plain = new PlainTrain();
        int calls = open(run, train, plain);
        for (int call = calls; call < CALLS; call++) {
            String method = pickMethod();
            compare(run, train, plain, method, pickFirst(method), pickSecond(method), pick(-1, 4));
        }
    }

    /** A night that is worth watching: stations with jolts, sorters, and letters ahead of their stations. */
    private int open(int run, NightSorters train, PlainTrain plain) {
        int gap = pick(3, 40);
        int[] minutes = new int[8];
        for (int station = 0; station < 8; station++) {
            minutes[station] = (station == 0 ? 0 : minutes[station - 1]) + pick(1, gap);
        }
        // The last station first where the minutes grow, the first one first where they shrink: both must rise.
        for (int i = 0; i < 16; i++) {
            int station = i < 8 ? 7 - i : i - 8;
            compare(run, train, plain, "setStation", station, minutes[station], pick(0, 3));
        }
        int sorters = pick(1, 4);
        for (int sorter = 0; sorter < sorters; sorter++) {
            compare(run, train, plain, "hire", pick(1, 5), pick(0, 2) == 0 ? pick(0, 65535) : 65535, 0);
        }
        int letters = pick(10, 50);
        int crowded = pick(2, 15);
        for (int letter = 0; letter < letters; letter++) {
            compare(run, train, plain, "post", pick(0, 2), pick(0, 2) == 0 ? crowded : pick(2, 15), 0);
        }
        return 16 + sorters + letters;
    }

    private static void compare(int run, NightSorters train, PlainTrain plain, String method, int... a) {
        String told = "run " + run + ", " + method + "(" + a[0] + ", " + a[1] + ", " + a[2] + ")";
        check.same(told, Calls.answer(train, method, a), Calls.answer(plain, method, a));
        check.same("digest() behind " + told, train.digest(), plain.digest());
    }

    private int pick(int least, int most) {
        seed = seed * 6364136223846793005L + 1442695040888963407L;
        return least + (int) ((seed >>> 33) % (most - least + 1));
    }

    private boolean seldom() {
        return pick(0, 39) == 0;
    }

    private String pickMethod() {
        int all = 0;
        for (int often : OFTEN) {
            all += often;
        }
        int at = pick(0, all - 1);
        int method = 0;
        while (at >= OFTEN[method]) {
            at -= OFTEN[method];
            method++;
        }
        return METHODS[method];
    }

    private int pickFirst(String method) {
        if (seldom()) {
            return new int[] {Integer.MIN_VALUE, -1, 61, 301, Integer.MAX_VALUE}[pick(0, 4)];
        }
        switch (method) {
            case "setStation":
            case "station":
                return pick(0, 8);
            case "post":
                return pick(0, 7);
            case "hire":
                return seldom() ? pick(0, 10) : pick(1, 4);
            case "assign":
            case "tea":
            case "sorter":
            case "advise":
                return pick(0, 4);
            case "letter":
            case "arrives":
                return pick(0, 60);
            case "pass":
                return pick(1, step);
            case "foresee":
                return pick(0, 301);
            default:
                return pick(0, 16);
        }
    }

    private int pickSecond(String method) {
        if (seldom()) {
            return new int[] {Integer.MIN_VALUE, -1, 1000, 65536, Integer.MAX_VALUE}[pick(0, 4)];
        }
        switch (method) {
            case "setStation":
                return seldom() ? pick(0, 1000) : pick(1, 200);
            case "post":
                // Towns far behind, and now and then many letters for one hole.
                return seldom() ? pick(0, 16) : pick(0, 3) == 0 ? 13 : pick(2, 15);
            case "hire":
            case "assign":
                return pick(0, 2) == 0 ? 65535 : pick(0, 65535);
            case "foresee":
                return pick(2, 9);
            case "advise":
                return pick(0, 121);
            case "sorter":
                return pick(0, 7);
            default:
                return pick(0, 5);
        }
    }
}
