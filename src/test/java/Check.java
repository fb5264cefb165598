import java.util.function.Supplier;

/** Counts the answers that are not the ones that are due, and ends the test with exit code 1 if there was one. */
final class Check {
    private final String test;
    private String sentence = "";
    private int asked = 0;
    private int wrong = 0;

    Check(String test) {
        this.test = test;
    }

    /** What one new train answers to a number, or what it does with it. */
    interface Call {
        void on(NightSorters train, int number);
    }

    /** The words of the document against which the next answers are held. */
    void sentence(String words) {
        sentence = words;
    }

    void same(String call, long got, long due) {
        asked++;
        if (got != due) {
            complain(call + " answered " + got + ", due is " + due);
        }
    }

    void same(String call, double got, double due) {
        asked++;
        if (Double.compare(got, due) != 0) {
            complain(call + " answered " + got + ", due is " + due);
        }
    }

    void same(String call, String got, String due) {
        asked++;
        if (!got.equals(due)) {
            complain(call + " answered " + got + ", due is " + due);
        }
    }

    void indexRefused(NightSorters train, String call, Runnable run) {
        refused(train, call, run, IndexOutOfBoundsException.class);
    }

    void argumentRefused(NightSorters train, String call, Runnable run) {
        refused(train, call, run, IllegalArgumentException.class);
    }

    void stateRefused(NightSorters train, String call, Runnable run) {
        refused(train, call, run, IllegalStateException.class);
    }

    /** Each number from the least to the greatest is taken, on a new train each, and those outside are refused. */
    void takes(int least, int greatest, Class<?> due, Supplier<NightSorters> trains, String told, Call call) {
        for (int number = least; number <= greatest; number++) {
            same(told + " of " + number, thrownBy(trains.get(), call, number), "nothing");
        }
        // Those further away are the ones that would look right if only some of their bits were looked at.
        int[] outside = {least - 1, greatest + 1, least - 256, greatest + 256, least + 65536, greatest + 65536,
            least - 65536, Integer.MIN_VALUE + greatest, Integer.MIN_VALUE, Integer.MAX_VALUE};
        for (int number : outside) {
            NightSorters train = trains.get();
            refused(train, told + " of " + number, () -> call.on(train, number), due);
        }
    }

    void unchanged(NightSorters train, String call, Runnable run) {
        long before = train.digest();
        run.run();
        same("digest() behind " + call, train.digest(), before);
    }

    void end() {
        System.out.println(test + ": " + asked + " answers, " + wrong + " wrong");
        if (wrong != 0) {
            System.exit(1);
        }
    }

    private void refused(NightSorters train, String call, Runnable run, Class<?> due) {
        long before = train.digest();
        String got = thrownBy(train, (same, number) -> run.run(), 0);
        same(call + " throws, and this", got, due.getSimpleName());
        same("digest() behind " + call, train.digest(), before);
    }

    private static String thrownBy(NightSorters train, Call call, int number) {
        try {
            call.on(train, number);
            return "nothing";
        } catch (RuntimeException e) {
            return e.getClass().getSimpleName();
        }
    }

    private void complain(String what) {
        wrong++;
        if (wrong <= 20) {
            System.out.println(test + (sentence.isEmpty() ? "" : ", \"" + sentence + "\"") + ": " + what);
        }
    }
}
