/** Counts the answers that are not the ones that are due, and ends the test with exit code 1 if there was one. */
final class Check {
    private final String test;
    private int asked = 0;
    private int wrong = 0;

    Check(String test) {
        this.test = test;
    }

    void same(String call, long got, long due) {
        asked++;
        if (got != due) {
            complain(call + " answered " + got + ", due is " + due);
        }
    }

    void same(String call, double got, double due) {
        asked++;
        if (Double.compare(got, due) != 0) {
            complain(call + " answered " + got + ", due is " + due);
        }
    }

    void same(String call, String got, String due) {
        asked++;
        if (!got.equals(due)) {
            complain(call + " answered " + got + ", due is " + due);
        }
    }

    void indexRefused(NightSorters train, String call, Runnable run) {
        refused(train, call, run, IndexOutOfBoundsException.class);
    }

    void argumentRefused(NightSorters train, String call, Runnable run) {
        refused(train, call, run, IllegalArgumentException.class);
    }

    void stateRefused(NightSorters train, String call, Runnable run) {
        refused(train, call, run, IllegalStateException.class);
    }

    void unchanged(NightSorters train, String call, Runnable run) {
        long before = train.digest();
        run.run();
        same("digest() behind " + call, train.digest(), before);
    }

    void end() {
        System.out.println(test + ": " + asked + " answers, " + wrong + " wrong");
        if (wrong != 0) {
            System.exit(1);
        }
    }

    private void refused(NightSorters train, String call, Runnable run, Class<?> due) {
        long before = train.digest();
        String got = "nothing";
        try {
            run.run();
        } catch (RuntimeException e) {
            got = e.getClass().getSimpleName();
        }
        same(call + " throws, and this", got, due.getSimpleName());
        same("digest() behind " + call, train.digest(), before);
    }

    private void complain(String what) {
        wrong++;
        if (wrong <= 20) {
            System.out.println(test + ": " + what);
        }
    }
}
