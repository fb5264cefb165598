/** Promises 13 to 17: arrives, foresee, advise, share, digest. */
public final class ForecastTest {
    private static final int ALL = Trains.ALL;
    private static final int[] FAR = {Integer.MIN_VALUE, -1, Integer.MAX_VALUE};

    private static final Check check = new Check("ForecastTest");

    public static void main(String[] args) {
        promise13Arrives();
        promise13ArrivesAtMost300();
        promise13ArrivesNever();
        promise14Foresee();
        promise14ForeseeLimits();
        promise15AdviseTakesTheMost();
        promise15AdviseTakesTheSmallest();
        promise15AdviseOfNoUse();
        promise15AdviseLooksOnlySoFar();
        promise15AdviseCountsHarmToo();
        promise15AdviseLimits();
        promise16Share();
        promise17DigestOfANewObject();
        promise17DigestOfAUsedObject();
        forecastsChangeNothing();
        forecastsTellWhatComes();
        forecastsKnowWhoseHandsAreFreed();
        check.end();
    }

    private static void promise13Arrives() {
        NightSorters train = new NightSorters();
        train.hire(1, ALL);
        Trains.post(train, 0, 2, 15, 1);
        check.same("arrives(0)", train.arrives(0), 41);
        check.same("arrives(1)", train.arrives(1), 161);
        check.same("arrives(2)", train.arrives(2), -1);
        train.pass(40);
        check.same("arrives(0) in 40", train.arrives(0), 1);
        check.same("arrives(2), late", train.arrives(2), -1);
        train.pass(1);
        check.same("arrives(0), delivered", train.arrives(0), 0);
        check.same("arrives(1) in 41", train.arrives(1), 120);
        for (int far : FAR) {
            check.indexRefused(train, "arrives(" + far + ")", () -> train.arrives(far));
        }
        check.indexRefused(train, "arrives(3)", () -> train.arrives(3));
    }

    private static void promise13ArrivesAtMost300() {
        NightSorters train = new NightSorters();
        train.hire(1, ALL);
        Trains.post(train, 0, 15);
        train.setStation(7, 300, 0);
        check.same("arrives(0), 301 minutes", train.arrives(0), -1);
        train.setStation(7, 299, 0);
        check.same("arrives(0), 300 minutes", train.arrives(0), 300);
        train.setStation(7, 300, 0);
        train.pass(1);
        check.same("arrives(0), a minute later", train.arrives(0), 300);
    }

    private static void promise13ArrivesNever() {
        NightSorters train = new NightSorters();
        Trains.post(train, 0, 15);
        check.same("arrives(0) without sorters", train.arrives(0), -1);
        train.hire(1, ALL);
        train.pass(30);
        Trains.post(train, 0, 15);
        check.same("arrives(0)", train.arrives(0), 131);
        check.same("arrives(1), in a passed bag", train.arrives(1), -1);
    }

    private static void promise14Foresee() {
        NightSorters train = new NightSorters();
        train.hire(9, ALL);
        Trains.post(train, 0, 2, 15, 1, 14);
        Trains.post(train, 3, 14);
        int[][] due = {
            {20, 5, 0, 0, 0, 0, 0},
            {21, 1, 3, 0, 0, 0, 1},
            {22, 1, 2, 1, 0, 0, 1},
            {30, 1, 2, 0, 1, 0, 1},
            {41, 1, 0, 1, 1, 1, 1},
            {300, 0, 0, 0, 0, 4, 1},
        };
        for (int[] row : due) {
            for (int what = 3; what <= 8; what++) {
                String call = "foresee(" + row[0] + ", " + what + ")";
                check.same(call, train.foresee(row[0], what), row[what - 2]);
            }
        }
        check.same("foresee(1, 3)", train.foresee(1, 3), 5);
    }

    private static void promise14ForeseeLimits() {
        NightSorters train = new NightSorters();
        Trains.post(train, 0, 2);
        for (int minutes : new int[] {0, -1, 301, Integer.MIN_VALUE, Integer.MAX_VALUE}) {
            check.argumentRefused(train, "foresee(" + minutes + ", 3)", () -> train.foresee(minutes, 3));
            check.argumentRefused(train, "foresee(" + minutes + ", 9)", () -> train.foresee(minutes, 9));
        }
        for (int what : new int[] {2, 9, 0, -1, Integer.MIN_VALUE, Integer.MAX_VALUE}) {
            check.indexRefused(train, "foresee(1, " + what + ")", () -> train.foresee(1, what));
        }
    }

    private static void promise15AdviseTakesTheMost() {
        NightSorters train = new NightSorters();
        train.hire(1, 1 << 3);
        Trains.post(train, 0, 3, 4, 7, 7, 9);
        check.same("advise(0, 120)", train.advise(0, 120), 7);
        train.assign(0, 1 << 3 | 1 << 7);
        check.same("advise(0, 120), 7 is taken already", train.advise(0, 120), 4);
        train.hire(1, 1 << 4);
        check.same("advise(0, 120), 4 is taken by another", train.advise(0, 120), 9);
        check.same("advise(1, 120)", train.advise(1, 120), 9);
    }

    private static void promise15AdviseTakesTheSmallest() {
        NightSorters train = new NightSorters();
        train.hire(1, 0);
        Trains.post(train, 0, 9, 9, 6, 6, 4);
        check.same("advise(0, 120)", train.advise(0, 120), 6);
    }

    private static void promise15AdviseOfNoUse() {
        NightSorters train = new NightSorters();
        train.hire(1, 0);
        check.same("advise(0, 120) without letters", train.advise(0, 120), -1);
        Trains.post(train, 0, 0, 1);
        check.same("advise(0, 120) for late letters", train.advise(0, 120), -1);
        Trains.post(train, 0, 2);
        check.same("advise(0, 120)", train.advise(0, 120), 2);
        train.assign(0, 1 << 2);
        check.same("advise(0, 120), it has the town", train.advise(0, 120), -1);
    }

    private static void promise15AdviseLooksOnlySoFar() {
        NightSorters train = new NightSorters();
        train.hire(1, 0);
        Trains.post(train, 0, 2, 4, 4);
        check.same("advise(0, 40)", train.advise(0, 40), -1);
        check.same("advise(0, 41)", train.advise(0, 41), 2);
        check.same("advise(0, 60)", train.advise(0, 60), 2);
        check.same("advise(0, 61)", train.advise(0, 61), 4);
    }

    /** A town may keep a slow sorter from more letters than it brings: then it is none to take. */
    private static void promise15AdviseCountsHarmToo() {
        NightSorters train = new NightSorters();
        train.hire(9, 1 << 2);
        Trains.post(train, 0, 6, 2, 2);
        check.same("advise(0, 41)", train.advise(0, 41), -1);
        check.same("advise(0, 81)", train.advise(0, 81), -1);
        train.assign(0, 0);
        check.same("advise(0, 81), with free hands", train.advise(0, 81), 2);
    }

    private static void promise15AdviseLimits() {
        NightSorters train = new NightSorters();
        check.indexRefused(train, "advise(0, 1) of none", () -> train.advise(0, 1));
        train.hire(1, 0);
        for (int sorter : new int[] {Integer.MIN_VALUE, -1, 1, 4, Integer.MAX_VALUE}) {
            check.indexRefused(train, "advise(" + sorter + ", 1)", () -> train.advise(sorter, 1));
            check.indexRefused(train, "advise(" + sorter + ", 0)", () -> train.advise(sorter, 0));
        }
        for (int minutes : new int[] {0, -1, 121, Integer.MIN_VALUE, Integer.MAX_VALUE}) {
            check.argumentRefused(train, "advise(0, " + minutes + ")", () -> train.advise(0, minutes));
        }
        check.same("advise(0, 1)", train.advise(0, 1), -1);
        check.same("advise(0, 120)", train.advise(0, 120), -1);
    }

    private static void promise16Share() {
        NightSorters train = new NightSorters();
        check.same("share()", train.share(), 0.0);
        train.hire(1, ALL);
        Trains.post(train, 0, 1, 2, 3, 4);
        check.same("share()", train.share(), 0.0);
        train.pass(21);
        check.same("share() with one late", train.share(), 0.0);
        train.pass(20);
        check.same("share() with two delivered", train.share(), 2.0 / 3.0);
        train.pass(20);
        check.same("share() with three delivered", train.share(), 0.75);
        NightSorters best = new NightSorters();
        best.hire(1, ALL);
        Trains.post(best, 0, 2);
        best.pass(41);
        check.same("share() with none late", best.share(), 1.0);
    }

    private static long digestOf(long... numbers) {
        long d = 1049;
        for (long x : numbers) {
            d = d * 31 + x;
        }
        return d;
    }

    private static void promise17DigestOfANewObject() {
        long due = digestOf(
            0, 0, 0, 0, 0, 0, 0, 0, 0, 0,
            20, 0, 0, 40, 0, 0, 60, 0, 0, 80, 0, 0, 100, 0, 0, 120, 0, 0, 140, 0, 0, 160, 0, 0,
            0, 0, 0, 0, 0, 0, 0, 0, 0, 0, 0, 0, 0, 0, 0, 0);
        check.same("digest()", new NightSorters().digest(), due);
    }

    private static void promise17DigestOfAUsedObject() {
        NightSorters train = new NightSorters();
        train.hire(1, 1 << 2 | 1 << 14);
        train.hire(9, 1 << 15);
        train.setStation(2, 61, 3);
        Trains.post(train, 0, 2, 14, 3, 15, 13);
        Trains.post(train, 3, 12);
        train.tea(1);
        train.pass(42);
        long due = digestOf(
            42, 6, 2, 1, 1, 0, 2, 1, 1, 2,
            20, 0, 0, 40, 0, 0, 61, 3, 0, 80, 0, 1, 100, 0, 0, 120, 0, 0, 140, 0, 0, 160, 0, 0,
            0, 0, 0, 0, 0, 0, 0, 0, 0, 0, 0, 0, 0, 0, 1, 1,
            1, 1 << 2 | 1 << 14, 2, 0, -1, 0, 2,
            9, 1 << 15, 1, 1, -1, 0, 1,
            4, 2, 0, -1, 40,
            3, 14, 0, -1, -1,
            5, 3, 0, -1, 40,
            3, 15, 0, -1, -1,
            1, 13, 0, -1, -1,
            0, 12, 3, -1, -1);
        check.same("digest()", train.digest(), due);
    }

    private static void forecastsChangeNothing() {
        NightSorters train = new NightSorters();
        train.hire(3, 1 << 7);
        train.hire(2, ALL);
        train.setStation(1, 33, 3);
        Trains.post(train, 0, 2, 15, 7, 7, 9, 1);
        for (int minutes = 1; minutes <= 41; minutes += 20) {
            check.unchanged(train, "arrives(1)", () -> train.arrives(1));
            check.unchanged(train, "foresee(100, 7)", () -> train.foresee(100, 7));
            check.unchanged(train, "advise(0, 100)", () -> train.advise(0, 100));
            check.unchanged(train, "advise(1, 100)", () -> train.advise(1, 100));
            train.pass(minutes);
        }
    }

    /** A night with full holes, jolts, tea, and a letter that is late in hands, so that all of it is foreseen. */
    private static NightSorters busyNight(int minutes) {
        NightSorters train = new NightSorters();
        train.hire(4, ALL);
        train.hire(1, 1 << 5 | 1 << 12);
        train.hire(3, 1 << 12 | 1 << 6 | 1 << 7);
        train.setStation(1, 33, 2);
        train.setStation(3, 86, 3);
        train.tea(2);
        Trains.post(train, 0, 12, 5, 12, 12, 2, 12, 12, 3, 12, 12, 2, 12, 12, 12, 6, 7, 4, 3);
        Trains.post(train, 1, 7, 7, 6, 12, 9, 5, 6, 15, 6, 7, 1);
        Trains.post(train, 2, 12, 13, 6, 12, 7, 7);
        if (minutes > 0) {
            train.pass(minutes);
        }
        return train;
    }

    private static void forecastsTellWhatComes() {
        for (int begin = 0; begin <= 100; begin++) {
            NightSorters train = busyNight(begin);
            for (int minutes = 1; minutes <= 91; minutes += 6) {
                NightSorters later = busyNight(begin);
                later.pass(minutes);
                for (int what = 3; what <= 8; what++) {
                    String call = "foresee(" + minutes + ", " + what + ") in " + begin;
                    check.same(call, train.foresee(minutes, what), later.count(what));
                }
            }
            NightSorters end = busyNight(begin);
            end.pass(200);
            for (int letter = 0; letter < end.count(1); letter++) {
                boolean never = end.letter(letter, 0) != 4;
                int due = never ? -1 : Math.max(0, end.letter(letter, 4) + 1 - begin);
                check.same("arrives(" + letter + ") in " + begin, train.arrives(letter), due);
            }
        }
    }

    private static void forecastsKnowWhoseHandsAreFreed() {
        NightSorters train = new NightSorters();
        train.hire(9, 0);
        train.hire(9, 1 << 2 | 1 << 15);
        train.setStation(1, 28, 0);
        Trains.post(train, 0, 2, 15);
        train.pass(22);
        check.same("letter(0, 3)", train.letter(0, 3), 1);
        check.same("foresee(139, 8)", train.foresee(139, 8), 1);
        check.same("foresee(7, 5)", train.foresee(7, 5), 0);
        check.same("foresee(8, 5)", train.foresee(8, 5), 1);
        check.same("arrives(1)", train.arrives(1), 139);
    }
}
