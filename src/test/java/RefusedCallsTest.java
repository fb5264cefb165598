import java.util.function.Supplier;

/** Calls that are refused change nothing, and throw the exception that is named first. */
public final class RefusedCallsTest {
    private static final String INDEX = "IndexOutOfBoundsException";
    private static final String ARGUMENT = "IllegalArgumentException";
    private static final String STATE = "IllegalStateException";

    private static final String[] INDEX_ALWAYS = {
        "setStation(-1, 20, 0)", "setStation(8, 170, 0)", "post(-1, 0)", "post(8, 0)", "post(0, -1)", "post(0, 16)",
        "assign(-1, 1)", "assign(4, 1)", "tea(-1)", "tea(4)", "letter(-1, 0)", "letter(60, 0)", "sorter(-1, 0)",
        "sorter(4, 0)", "hole(-1)", "hole(16)", "station(-1, 0)", "station(8, 0)", "station(0, -1)", "station(0, 3)",
        "count(-1)", "count(10)", "arrives(-1)", "arrives(60)", "foresee(1, 2)", "foresee(1, 9)", "foresee(300, 2)",
        "foresee(300, 9)", "advise(-1, 1)", "advise(4, 1)",
    };
    private static final String[] ARGUMENT_ALWAYS = {
        "setStation(7, 0, 0)", "setStation(7, 1000, 0)", "setStation(7, 160, -1)", "setStation(7, 160, 4)",
        "setStation(7, 999, -1)", "setStation(7, 999, 4)", "hire(0, 1)", "hire(10, 1)", "hire(1, -1)", "hire(1, 65536)",
        "pass(0)", "pass(301)", "pass(-1)", "foresee(0, 3)", "foresee(301, 3)", "foresee(0, 8)", "foresee(301, 8)",
    };
    private static final String[] INDEX_WITH_ONE = {
        "letter(0, -1)", "letter(0, 5)", "sorter(0, -1)", "sorter(0, 7)",
    };
    private static final String[] ARGUMENT_WITH_ONE = {
        "assign(0, -1)", "assign(0, 65536)", "advise(0, 0)", "advise(0, 121)",
    };
    private static final String[] INDEX_OF_NONE = {
        "assign(0, 1)", "tea(0)", "letter(0, 0)", "sorter(0, 0)", "arrives(0)", "advise(0, 1)",
    };
    private static final String[] STATE_IN_40 = {
        "setStation(0, 20, 0)", "setStation(0, 39, 0)", "setStation(0, 40, 0)", "setStation(0, 999, 0)",
        "setStation(1, 39, 0)", "setStation(1, 1, 0)", "setStation(1, 60, 0)", "setStation(2, 40, 0)",
        "setStation(2, 39, 0)", "setStation(2, 80, 0)", "setStation(7, 140, 0)", "setStation(7, 41, 0)",
    };
    private static final String[] STATE_WHEN_FULL = {"post(0, 0)", "post(7, 15)", "hire(1, 0)", "hire(9, 65535)"};

    /** Calls to which two exceptions or more apply, where the index is named first. */
    private static final String[] INDEX_FIRST = {
        "setStation(-1, 0, 0)", "setStation(8, 1000, 0)", "setStation(-1, 20, 4)", "setStation(8, 1000, -1)",
        "setStation(8, 1, 0)", "post(8, 0)", "post(0, 16)", "post(-1, -1)", "assign(-1, -1)", "assign(4, 65536)",
        "advise(-1, 0)", "advise(4, 121)", "letter(60, 5)", "sorter(-1, 7)", "station(8, 3)",
    };
    /** .. where the argument is named first. */
    private static final String[] ARGUMENT_FIRST = {
        "setStation(0, 0, 0)", "setStation(0, 1000, 0)", "setStation(0, 30, 4)", "setStation(0, 20, -1)",
        "setStation(1, 60, 4)", "setStation(1, 39, -1)", "setStation(5, 999, 4)", "hire(0, 1)", "hire(10, 1)",
        "hire(1, -1)", "hire(1, 65536)", "foresee(0, 2)", "foresee(301, 9)", "foresee(-1, -1)",
    };

    private static final Check check = new Check("RefusedCallsTest");

    public static void main(String[] args) {
        check.sentence("A method that throws an exception changes nothing.");
        changesNothing(NightSorters::new, INDEX_OF_NONE, INDEX);
        changesNothingAnywhere(INDEX_ALWAYS, INDEX);
        changesNothingAnywhere(ARGUMENT_ALWAYS, ARGUMENT);
        changesNothingWithSorters(INDEX_WITH_ONE, INDEX);
        changesNothingWithSorters(ARGUMENT_WITH_ONE, ARGUMENT);
        changesNothing(RefusedCallsTest::inTheMinuteOfStation1, STATE_IN_40, STATE);
        changesNothing(RefusedCallsTest::full, STATE_WHEN_FULL, STATE);
        changesNothing(RefusedCallsTest::fullBehindTheNight, STATE_WHEN_FULL, STATE);
        check.sentence("If several exceptions apply, the one that is named first is thrown.");
        changesNothing(RefusedCallsTest::fullInTheMinuteOfStation1, INDEX_FIRST, INDEX);
        changesNothing(RefusedCallsTest::fullInTheMinuteOfStation1, ARGUMENT_FIRST, ARGUMENT);
        changesNothingAllNight();
        check.end();
    }

    /** Two sorters with letters in hands, letters in bags, on the table, in holes, and jolts ahead. */
    private static NightSorters begun() {
        NightSorters train = Trains.with(Trains.sorter(9, Trains.ALL), Trains.sorter(1, 1 << 15 | 1 << 4));
        train.setStation(0, 18, 3);
        train.setStation(2, 60, 2);
        train.tea(1);
        Trains.post(train, 0, 2, 15, 4, 5, 1, 15, 3, 4);
        Trains.post(train, 1, 15, 7, 2);
        Trains.post(train, 3, 15, 14, 0);
        Trains.to(train, 22);
        return train;
    }

    private static NightSorters inTheMinuteOfStation1() {
        NightSorters train = begun();
        Trains.to(train, 40);
        return train;
    }

    private static NightSorters full() {
        NightSorters train = begun();
        train.hire(3, 1 << 7);
        train.hire(2, 1 << 13 | 1 << 12);
        while (train.count(1) < 60) {
            train.post(train.count(1) % 4, 4 + train.count(1) % 12);
        }
        return train;
    }

    private static NightSorters fullInTheMinuteOfStation1() {
        NightSorters train = full();
        Trains.to(train, 40);
        return train;
    }

    private static NightSorters fullBehindTheNight() {
        NightSorters train = full();
        Trains.to(train, 200);
        return train;
    }

    private static void changesNothingAnywhere(String[] calls, String due) {
        changesNothing(NightSorters::new, calls, due);
        changesNothingWithSorters(calls, due);
    }

    private static void changesNothingWithSorters(String[] calls, String due) {
        changesNothing(RefusedCallsTest::begun, calls, due);
        changesNothing(RefusedCallsTest::inTheMinuteOfStation1, calls, due);
        changesNothing(RefusedCallsTest::full, calls, due);
        changesNothing(RefusedCallsTest::fullBehindTheNight, calls, due);
    }

    /** A second train without the call answers alike, at once and for the rest of the night. */
    private static void changesNothing(Supplier<NightSorters> trains, String[] calls, String due) {
        for (String call : calls) {
            NightSorters asked = trains.get();
            NightSorters other = trains.get();
            String told = call + " in " + asked.count(0);
            check.same(told, Calls.answer(asked, call), due);
            check.same("digest() behind " + told, asked.digest(), other.digest());
            goOnAlike(told, asked, other);
        }
    }

    private static void goOnAlike(String told, NightSorters asked, NightSorters other) {
        String[] later = {
            "foresee(40, 7)", "arrives(0)", "advise(0, 100)", "post(6, 15)", "hire(5, 65535)", "pass(7)", "digest()",
            "pass(30)", "digest()", "setStation(7, 300, 1)", "tea(0)", "pass(300)", "digest()", "share()",
        };
        for (String call : later) {
            check.same(call + ", later than " + told, Calls.answer(asked, call), Calls.answer(other, call));
        }
    }

    /** All that are refused everywhere, again and again: the night goes on as without them. */
    private static void changesNothingAllNight() {
        check.sentence("A method that throws an exception changes nothing.");
        NightSorters asked = begun();
        NightSorters other = begun();
        int next = 0;
        while (asked.count(0) < 170) {
            check.same(INDEX_ALWAYS[next % INDEX_ALWAYS.length],
                Calls.answer(asked, INDEX_ALWAYS[next % INDEX_ALWAYS.length]), INDEX);
            check.same(ARGUMENT_ALWAYS[next % ARGUMENT_ALWAYS.length],
                Calls.answer(asked, ARGUMENT_ALWAYS[next % ARGUMENT_ALWAYS.length]), ARGUMENT);
            next++;
            asked.pass(2);
            other.pass(2);
            check.same("digest() in " + asked.count(0), asked.digest(), other.digest());
        }
    }
}
