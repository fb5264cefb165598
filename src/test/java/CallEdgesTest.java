/** Promises 1 to 12: each sentence that names an edge of a call, in the document's order. */
public final class CallEdgesTest {
    private static final int ALL = Trains.ALL;
    private static final Class<?> INDEX = IndexOutOfBoundsException.class;
    private static final Class<?> ARGUMENT = IllegalArgumentException.class;

    private static final Check check = new Check("CallEdgesTest");

    public static void main(String[] args) {
        newObjectIsEmpty();
        newObjectIsItsOwn();
        setStationAnswersAsItWas();
        setStationTakesStations0To7();
        setStationTakesMinutes1To999();
        setStationTakesJolts0To3();
        setStationOfAPassedStation();
        setStationToAPassedMinute();
        setStationMinutesMustRise();
        setStationOnlyTheJolt();
        postTakesStationsAndTowns();
        postAtMost60();
        hireTakesPacesAndSets();
        hireAtMost4();
        assignTakesSorters();
        assignTakesSets();
        assignAnswersTheSetBefore();
        assignIsFromNowOn();
        teaTakesSorters();
        teaAnswersHowTired();
        teaStaysTillItIsSpilled();
        letterTakesLetters();
        letterTakesWhats();
        letterAnswersAtItsEdges();
        letterInHandsOfEachSorter();
        letterEndsInAMinute();
        sorterTakesSorters();
        sorterTakesWhats();
        sorterAnswersAtItsEdges();
        sorterCountsWhatItPutIntoHoles();
        sorterCountsWhatThisOnePutIntoHoles();
        holeTakesTowns();
        holeEmptyAndFull();
        stationTakesStations();
        stationTakesWhats();
        stationAnswersAtItsEdges();
        countTakesWhats();
        countsOfNothing();
        countsOfAllLetters();
        countOfTheNextStation();
        passTakes1To300();
        passGoesBySoMany();
        passCountsTheLastMinute();
        passCountsOnlyItsOwn();
        passCountsNoneAndAll();
        check.end();
    }

    private static NightSorters fourSorters() {
        return Trains.with(Trains.sorter(1, ALL), Trains.sorter(9, 0), Trains.sorter(3, 1), Trains.sorter(4, 2));
    }

    private static NightSorters sixtyLetters() {
        NightSorters train = new NightSorters();
        Trains.postMany(train, 0, 15, 60);
        return train;
    }

    // ---- 1: a new object

    private static void newObjectIsEmpty() {
        check.sentence("Creates a train without letters and sorters, in the minute 0.");
        NightSorters train = new NightSorters();
        for (int what = 0; what < 10; what++) {
            check.same("count(" + what + ")", train.count(what), 0);
        }
        check.indexRefused(train, "letter(0, 0)", () -> train.letter(0, 0));
        check.indexRefused(train, "sorter(0, 0)", () -> train.sorter(0, 0));
        check.indexRefused(train, "arrives(0)", () -> train.arrives(0));
        for (int town = 0; town < 16; town++) {
            check.same("hole(" + town + ")", train.hole(town), 0);
        }
        for (int station = 0; station < 8; station++) {
            check.same("station(" + station + ", 2)", train.station(station, 2), 0);
        }
        check.same("share()", train.share(), 0.0);
    }

    private static void newObjectIsItsOwn() {
        check.sentence("Creates a train without letters and sorters, in the minute 0.");
        NightSorters used = fourSorters();
        used.setStation(0, 5, 3);
        used.post(0, 15);
        used.pass(30);
        used.foresee(100, 7);
        NightSorters train = new NightSorters();
        check.same("count(0)", train.count(0), 0);
        check.same("count(1)", train.count(1), 0);
        check.same("count(2)", train.count(2), 0);
        check.same("station(0, 0)", train.station(0, 0), 20);
        check.same("station(0, 1)", train.station(0, 1), 0);
        train.setStation(0, 7, 2);
        train.pass(8);
        check.same("station(0, 0) of the other", used.station(0, 0), 5);
        check.same("count(0) of the other", used.count(0), 30);
    }

    // ---- 2: setStation

    private static void setStationAnswersAsItWas() {
        check.sentence("Returns 10 * minute + jolt, as they were before.");
        NightSorters train = new NightSorters();
        check.same("setStation(0, 1, 0)", train.setStation(0, 1, 0), 200);
        check.same("setStation(0, 1, 3), the least answer", train.setStation(0, 1, 3), 10);
        check.same("setStation(0, 2, 3)", train.setStation(0, 2, 3), 13);
        check.same("setStation(0, 2, 0)", train.setStation(0, 2, 0), 23);
        check.same("setStation(7, 999, 3)", train.setStation(7, 999, 3), 1600);
        check.same("setStation(7, 999, 0), the greatest answer", train.setStation(7, 999, 0), 9993);
        check.same("setStation(7, 998, 0)", train.setStation(7, 998, 0), 9990);
        check.same("setStation(7, 999, 1)", train.setStation(7, 999, 1), 9980);
    }

    private static void setStationTakesStations0To7() {
        check.sentence("if station is not 0 to 7");
        check.takes(0, 7, INDEX, NightSorters::new, "setStation(.., 20 * .. + 21, 1)",
            (train, station) -> train.setStation(station, station < 0 || station > 7 ? 500 : 20 * station + 21, 1));
    }

    private static void setStationTakesMinutes1To999() {
        check.sentence("if minute is not 1 to 999");
        for (int station = 0; station < 8; station++) {
            for (int minute = -100; minute <= 1100; minute++) {
                boolean rises = (station == 0 || minute > 20 * station) && (station == 7 || minute < 20 * station + 40);
                String taken = rises ? "" + (200 * station + 200) : "IllegalStateException";
                String due = minute < 1 || minute > 999 ? "IllegalArgumentException" : taken;
                NightSorters train = new NightSorters();
                String call = "setStation(" + station + ", " + minute + ", 0)";
                check.same(call, Calls.answer(train, call), due);
            }
        }
        for (int minute : new int[] {Integer.MIN_VALUE, 65536 + 20, Integer.MAX_VALUE}) {
            NightSorters train = new NightSorters();
            check.argumentRefused(train, "setStation(0, " + minute + ", 0)", () -> train.setStation(0, minute, 0));
            check.argumentRefused(train, "setStation(7, " + minute + ", 0)", () -> train.setStation(7, minute, 0));
        }
    }

    private static void setStationTakesJolts0To3() {
        check.sentence("or jolt is not 0 to 3");
        check.takes(0, 3, ARGUMENT, NightSorters::new, "setStation(0, 20, ..)",
            (train, jolt) -> train.setStation(0, 20, jolt));
        check.takes(0, 3, ARGUMENT, NightSorters::new, "setStation(7, 999, ..)",
            (train, jolt) -> train.setStation(7, 999, jolt));
    }

    private static void setStationOfAPassedStation() {
        check.sentence("if the minute that is now is greater than that in which it was to be passed");
        for (int station = 0; station < 8; station++) {
            int its = station;
            int minute = 20 * station + 20;
            NightSorters train = new NightSorters();
            Trains.to(train, minute);
            check.same("later, in its minute", train.setStation(its, minute + 10, 0), 10 * minute);
            check.same("back into its minute", train.setStation(its, minute, 0), 10 * minute + 100);
            train.pass(1);
            check.stateRefused(train, "later, a minute behind " + its, () -> train.setStation(its, minute + 10, 0));
            check.stateRefused(train, "now, a minute behind " + its, () -> train.setStation(its, minute + 1, 0));
            train.pass(300);
            check.stateRefused(train, "long behind " + its, () -> train.setStation(its, 999, 3));
        }
    }

    private static void setStationToAPassedMinute() {
        check.sentence("or than the new one");
        for (int station = 0; station < 8; station++) {
            int its = station;
            int minute = 20 * station + 20;
            NightSorters train = new NightSorters();
            Trains.to(train, minute - 8);
            check.stateRefused(train, "the minute before now", () -> train.setStation(its, minute - 9, 0));
            check.stateRefused(train, "ten minutes before now", () -> train.setStation(its, minute - 18, 0));
            check.same("this minute", train.setStation(its, minute - 8, 0), 10 * minute);
            check.same("the minute behind now", train.setStation(its, minute - 7, 0), 10 * minute - 80);
        }
        NightSorters begun = new NightSorters();
        begun.pass(1);
        check.same("setStation(0, 1, 0) in the minute 1", begun.setStation(0, 1, 0), 200);
    }

    private static void setStationMinutesMustRise() {
        check.sentence("or the minutes of all stations would not rise");
        NightSorters train = new NightSorters();
        check.stateRefused(train, "setStation(3, 60, 0)", () -> train.setStation(3, 60, 0));
        check.stateRefused(train, "setStation(3, 59, 0)", () -> train.setStation(3, 59, 0));
        check.stateRefused(train, "setStation(3, 1, 0)", () -> train.setStation(3, 1, 0));
        check.stateRefused(train, "setStation(3, 100, 0)", () -> train.setStation(3, 100, 0));
        check.stateRefused(train, "setStation(3, 101, 0)", () -> train.setStation(3, 101, 0));
        check.stateRefused(train, "setStation(3, 999, 0)", () -> train.setStation(3, 999, 0));
        check.same("setStation(3, 61, 0)", train.setStation(3, 61, 0), 800);
        check.same("setStation(3, 99, 0)", train.setStation(3, 99, 0), 610);
        // The neighbours as they are now, not as they were at first.
        check.stateRefused(train, "setStation(4, 99, 0)", () -> train.setStation(4, 99, 0));
        check.same("setStation(2, 98, 0)", train.setStation(2, 98, 0), 600);
        check.stateRefused(train, "setStation(2, 99, 0)", () -> train.setStation(2, 99, 0));
        check.same("setStation(4, 119, 0)", train.setStation(4, 119, 0), 1000);
        check.same("setStation(3, 118, 0)", train.setStation(3, 118, 0), 990);
        // The first one has none before it, the last one none behind it.
        check.same("setStation(0, 1, 0)", train.setStation(0, 1, 0), 200);
        check.same("setStation(7, 999, 0)", train.setStation(7, 999, 0), 1600);
    }

    private static void setStationOnlyTheJolt() {
        check.sentence("or the minutes of all stations would not rise");
        NightSorters train = new NightSorters();
        for (int station = 0; station < 8; station++) {
            int minute = 20 * station + 20;
            check.same("the same minute", train.setStation(station, minute, 2), 10 * minute);
            check.same("station(" + station + ", 1)", train.station(station, 1), 2);
        }
    }

    // ---- 3: post

    private static void postTakesStationsAndTowns() {
        check.sentence("if station is not 0 to 7, or town is not 0 to 15");
        check.takes(0, 7, INDEX, NightSorters::new, "post(.., 0)", (train, station) -> train.post(station, 0));
        check.takes(0, 7, INDEX, NightSorters::new, "post(.., 15)", (train, station) -> train.post(station, 15));
        check.takes(0, 15, INDEX, NightSorters::new, "post(0, ..)", (train, town) -> train.post(0, town));
        check.takes(0, 15, INDEX, NightSorters::new, "post(7, ..)", (train, town) -> train.post(7, town));
        NightSorters behind = new NightSorters();
        behind.pass(300);
        check.same("post(0, 0), all stations passed", behind.post(0, 0), 0);
    }

    private static void postAtMost60() {
        check.sentence("if there are 60");
        NightSorters train = new NightSorters();
        for (int letter = 0; letter < 60; letter++) {
            check.same("post(1, 2)", train.post(1, 2), letter);
        }
        check.stateRefused(train, "post(1, 2), the 61st", () -> train.post(1, 2));
        check.stateRefused(train, "post(1, 2), once more", () -> train.post(1, 2));
        check.same("station(1, 2)", train.station(1, 2), 60);
    }

    // ---- 4: hire

    private static void hireTakesPacesAndSets() {
        check.sentence("if pace is not 1 to 9, or towns is not a set of towns");
        check.takes(1, 9, ARGUMENT, NightSorters::new, "hire(.., 0)", (train, pace) -> train.hire(pace, 0));
        check.takes(1, 9, ARGUMENT, NightSorters::new, "hire(.., 65535)", (train, pace) -> train.hire(pace, ALL));
        check.takes(0, ALL, ARGUMENT, NightSorters::new, "hire(1, ..)", (train, towns) -> train.hire(1, towns));
        NightSorters train = new NightSorters();
        for (int bit = 16; bit < 32; bit++) {
            int towns = 1 << bit | 1;
            check.argumentRefused(train, "hire(1, " + towns + ")", () -> train.hire(1, towns));
        }
    }

    private static void hireAtMost4() {
        check.sentence("if there are 4");
        NightSorters train = new NightSorters();
        for (int sorter = 0; sorter < 4; sorter++) {
            check.same("hire(9, 65535)", train.hire(9, ALL), sorter);
        }
        check.stateRefused(train, "hire(9, 65535), the 5th", () -> train.hire(9, ALL));
        check.stateRefused(train, "hire(1, 0), once more", () -> train.hire(1, 0));
        check.same("count(2)", train.count(2), 4);
    }

    // ---- 5: assign

    private static void assignTakesSorters() {
        check.sentence("if there is no such sorter");
        check.takes(0, 3, INDEX, CallEdgesTest::fourSorters, "assign(.., 5)", (train, s) -> train.assign(s, 5));
        check.takes(0, 0, INDEX, () -> Trains.with(Trains.sorter(1, 1)), "assign(.., 5) with one sorter",
            (train, s) -> train.assign(s, 5));
        NightSorters none = new NightSorters();
        check.indexRefused(none, "assign(0, 5) with none", () -> none.assign(0, 5));
    }

    private static void assignTakesSets() {
        check.sentence("if towns is not a set of towns");
        check.takes(0, ALL, ARGUMENT, CallEdgesTest::fourSorters, "assign(3, ..)",
            (train, towns) -> train.assign(3, towns));
        NightSorters train = fourSorters();
        for (int bit = 16; bit < 32; bit++) {
            int towns = 1 << bit;
            check.argumentRefused(train, "assign(0, " + towns + ")", () -> train.assign(0, towns));
        }
    }

    private static void assignAnswersTheSetBefore() {
        check.sentence("Returns the set before.");
        NightSorters train = fourSorters();
        check.same("assign(0, 0)", train.assign(0, 0), ALL);
        check.same("assign(0, 65535)", train.assign(0, ALL), 0);
        check.same("assign(0, 65535), the same once more", train.assign(0, ALL), ALL);
        check.same("assign(3, 32768)", train.assign(3, 32768), 2);
        check.same("sorter(3, 1)", train.sorter(3, 1), 32768);
        check.same("sorter(1, 1), another", train.sorter(1, 1), 0);
    }

    private static void assignIsFromNowOn() {
        check.sentence("the towns for which this one takes letters from now on");
        NightSorters train = Trains.with(Trains.sorter(3, 1 << 14));
        Trains.post(train, 0, 14, 14, 15);
        Trains.to(train, 22);
        train.assign(0, 1 << 15);
        check.same("sorter(0, 4), taken before", train.sorter(0, 4), 0);
        check.same("sorter(0, 5), taken before", train.sorter(0, 5), 2);
        Trains.to(train, 24);
        check.same("letter(0, 0), sorted", train.letter(0, 0), 3);
        train.pass(1);
        check.same("sorter(0, 4), taken by the new set", train.sorter(0, 4), 2);
        train.assign(0, 0);
        Trains.to(train, 40);
        check.same("count(4), the empty set", train.count(4), 1);
        check.same("count(6), the empty set", train.count(6), 2);
    }

    // ---- 6: tea

    private static void teaTakesSorters() {
        check.sentence("if there is no such sorter");
        check.takes(0, 3, INDEX, CallEdgesTest::fourSorters, "tea", (train, sorter) -> train.tea(sorter));
        check.takes(0, 0, INDEX, () -> Trains.with(Trains.sorter(1, 1)), "tea, one sorter", (train, s) -> train.tea(s));
        NightSorters none = new NightSorters();
        check.indexRefused(none, "tea(0) with none", () -> none.tea(0));
    }

    private static void teaAnswersHowTired() {
        check.sentence("Returns by how much this one was tired.");
        for (int letters = 0; letters <= 8; letters++) {
            NightSorters train = Trains.with(Trains.sorter(9, 0), Trains.sorter(1, ALL));
            Trains.postMany(train, 0, 15, letters);
            Trains.to(train, 60);
            check.same("tea(1) behind " + letters + " letters", train.tea(1), letters);
            check.same("sorter(1, 2), is not tired", train.sorter(1, 2), 0);
            check.same("tea(1) once more", train.tea(1), 0);
            check.same("tea(0)", train.tea(0), 0);
        }
    }

    private static void teaStaysTillItIsSpilled() {
        check.sentence("who has it then, till it is spilled, and is not tired.");
        NightSorters train = fourSorters();
        train.setStation(7, 160, 1);
        train.tea(3);
        Trains.to(train, 165);
        check.same("sorter(3, 3) in 165", train.sorter(3, 3), 1);
        train.pass(1);
        check.same("sorter(3, 3) in 166", train.sorter(3, 3), 0);
        train.tea(3);
        train.tea(3);
        check.same("sorter(3, 3), poured twice", train.sorter(3, 3), 1);
        train.pass(300);
        check.same("sorter(3, 3), never spilled", train.sorter(3, 3), 1);
    }

    // ---- 7: letter

    private static void letterTakesLetters() {
        check.sentence("if there is no such letter, or what is not 0 to 4");
        check.takes(0, 59, INDEX, CallEdgesTest::sixtyLetters, "letter(.., 0)", (train, l) -> train.letter(l, 0));
        NightSorters train = new NightSorters();
        check.indexRefused(train, "letter(0, 0) with none", () -> train.letter(0, 0));
        check.indexRefused(train, "letter(-1, 0) with none", () -> train.letter(-1, 0));
        train.post(0, 0);
        check.same("letter(0, 0) with one", train.letter(0, 0), 0);
        check.indexRefused(train, "letter(1, 0) with one", () -> train.letter(1, 0));
    }

    private static void letterTakesWhats() {
        check.sentence("if there is no such letter, or what is not 0 to 4");
        check.takes(0, 4, INDEX, CallEdgesTest::sixtyLetters, "letter(0, ..)", (train, w) -> train.letter(0, w));
        check.takes(0, 4, INDEX, CallEdgesTest::sixtyLetters, "letter(59, ..)", (train, w) -> train.letter(59, w));
    }

    private static void letterAnswersAtItsEdges() {
        check.sentence("1 its town, 2 the station where it was posted");
        NightSorters train = new NightSorters();
        for (int letter = 0; letter < 60; letter++) {
            train.post(letter / 16, letter % 16);
        }
        for (int letter = 0; letter < 60; letter++) {
            check.same("letter(" + letter + ", 1)", train.letter(letter, 1), letter % 16);
            check.same("letter(" + letter + ", 2)", train.letter(letter, 2), letter / 16);
        }
        train.pass(300);
        check.same("letter(0, 1), late", train.letter(0, 1), 0);
        check.same("letter(59, 2), late", train.letter(59, 2), 3);
        NightSorters last = new NightSorters();
        last.post(7, 15);
        check.same("letter(0, 1)", last.letter(0, 1), 15);
        check.same("letter(0, 2)", last.letter(0, 2), 7);
    }

    private static void letterInHandsOfEachSorter() {
        check.sentence("3 the sorter in whose hands it is, -1 otherwise");
        NightSorters train = Trains.with(Trains.sorter(2, 1 << 12), Trains.sorter(2, 1 << 13),
            Trains.sorter(2, 1 << 14), Trains.sorter(2, 1 << 15));
        Trains.post(train, 0, 15, 14, 13, 12, 11, 0);
        int[] minutes = {20, 21, 22, 23, 200};
        for (int minute : minutes) {
            Trains.to(train, minute);
            for (int letter = 0; letter < 6; letter++) {
                int due = minute == 22 && letter < 4 ? 3 - letter : -1;
                check.same("letter(" + letter + ", 3) in " + minute, train.letter(letter, 3), due);
            }
        }
    }

    private static void letterEndsInAMinute() {
        check.sentence("4 the minute in which it was delivered or late, -1 otherwise");
        NightSorters first = new NightSorters();
        first.setStation(0, 1, 0);
        Trains.post(first, 0, 1, 2);
        first.pass(1);
        check.same("letter(0, 4) in 1", first.letter(0, 4), -1);
        first.pass(1);
        check.same("letter(0, 4), late in 1", first.letter(0, 4), 1);
        check.same("letter(1, 4), on the table", first.letter(1, 4), -1);
        NightSorters last = Trains.with(Trains.sorter(1, 1 << 15));
        Trains.leaveALongNight(last);
        Trains.post(last, 0, 15, 14);
        Trains.to(last, 999);
        check.same("letter(0, 4), in its hole", last.letter(0, 4), -1);
        check.same("letter(1, 4), on the table", last.letter(1, 4), -1);
        last.pass(1);
        check.same("letter(0, 4), delivered in 999", last.letter(0, 4), 999);
        check.same("letter(1, 4), late in 999", last.letter(1, 4), 999);
        last.pass(300);
        check.same("letter(0, 4), later", last.letter(0, 4), 999);
    }

    // ---- 8: sorter

    private static void sorterTakesSorters() {
        check.sentence("if there is no such sorter, or what is not 0 to 6");
        check.takes(0, 3, INDEX, CallEdgesTest::fourSorters, "sorter(.., 0)", (train, s) -> train.sorter(s, 0));
        NightSorters train = new NightSorters();
        check.indexRefused(train, "sorter(0, 0) with none", () -> train.sorter(0, 0));
        train.hire(1, 0);
        check.same("sorter(0, 0) with one", train.sorter(0, 0), 1);
        check.indexRefused(train, "sorter(1, 0) with one", () -> train.sorter(1, 0));
    }

    private static void sorterTakesWhats() {
        check.sentence("if there is no such sorter, or what is not 0 to 6");
        check.takes(0, 6, INDEX, CallEdgesTest::fourSorters, "sorter(0, ..)", (train, w) -> train.sorter(0, w));
        check.takes(0, 6, INDEX, CallEdgesTest::fourSorters, "sorter(3, ..)", (train, w) -> train.sorter(3, w));
    }

    private static void sorterAnswersAtItsEdges() {
        check.sentence("4 the letter in the hands, -1 for none, 5 the minutes that it needs yet, 0 for none");
        NightSorters train = Trains.with(Trains.sorter(9, 1 << 2), Trains.sorter(9, 1 << 3));
        train.post(0, 2);
        Trains.postMany(train, 0, 15, 58);
        train.post(0, 3);
        int[] minutes = {21, 22, 29, 30};
        int[] left = {0, 8, 1, 0};
        for (int i = 0; i < 4; i++) {
            Trains.to(train, minutes[i]);
            boolean holds = left[i] > 0;
            check.same("sorter(0, 4) in " + minutes[i], train.sorter(0, 4), holds ? 0 : -1);
            check.same("sorter(1, 4) in " + minutes[i], train.sorter(1, 4), holds ? 59 : -1);
            check.same("sorter(0, 5) in " + minutes[i], train.sorter(0, 5), left[i]);
            check.same("sorter(1, 5) in " + minutes[i], train.sorter(1, 5), left[i]);
        }
    }

    private static void sorterCountsWhatItPutIntoHoles() {
        check.sentence("6 letters that this one put into holes in all");
        NightSorters train = Trains.with(Trains.sorter(1, 1 << 2), Trains.sorter(1, 1 << 15), Trains.sorter(9, 1 << 3));
        train.setStation(0, 20, 2);
        train.setStation(1, 28, 0);
        Trains.post(train, 0, 2, 3);
        Trains.postMany(train, 0, 15, 2);
        check.same("sorter(0, 6) at first", train.sorter(0, 6), 0);
        Trains.to(train, 25);
        check.same("sorter(1, 6) ahead of the jolt", train.sorter(1, 6), 2);
        Trains.to(train, 40);
        check.same("sorter(0, 6), delivered", train.sorter(0, 6), 1);
        check.same("sorter(1, 6), spilled and sorted again", train.sorter(1, 6), 4);
        check.same("sorter(2, 6), late in hands", train.sorter(2, 6), 0);
    }

    private static void sorterCountsWhatThisOnePutIntoHoles() {
        check.sentence("6 letters that this one put into holes in all");
        NightSorters train = Trains.with(Trains.sorter(1, 1 << 15), Trains.sorter(1, 0));
        train.setStation(0, 20, 2);
        Trains.postMany(train, 0, 15, 9);
        Trains.to(train, 25);
        check.same("sorter(0, 6) ahead of the jolt", train.sorter(0, 6), 4);
        train.assign(0, 0);
        train.assign(1, 1 << 15);
        Trains.to(train, 26);
        check.same("hole(15) behind the jolt", train.hole(15), 0);
        check.same("sorter(0, 6), its letters spilled", train.sorter(0, 6), 4);
        check.same("sorter(1, 6), its first letter spilled", train.sorter(1, 6), 1);
        Trains.to(train, 100);
        check.same("hole(15) full", train.hole(15), 8);
        check.same("sorter(0, 6), its letters put by another", train.sorter(0, 6), 4);
        check.same("sorter(1, 6), one put twice, and the ninth put back", train.sorter(1, 6), 9);
        check.same("sorter(1, 2), which the ninth tires, too", train.sorter(1, 2) > 9 ? 1 : 0, 1);
    }

    // ---- 9: hole

    private static void holeTakesTowns() {
        check.sentence("if town is not 0 to 15");
        check.takes(0, 15, INDEX, NightSorters::new, "hole", (train, town) -> train.hole(town));
    }

    private static void holeEmptyAndFull() {
        check.sentence("Returns how many letters are in its hole.");
        NightSorters train = Trains.with(Trains.sorter(1, ALL));
        train.tea(0);
        Trains.postMany(train, 0, 15, 9);
        for (int minute = 21; minute <= 30; minute++) {
            Trains.to(train, minute);
            check.same("hole(15) in " + minute, train.hole(15), Math.min(8, minute - 21));
            check.same("hole(14) in " + minute, train.hole(14), 0);
        }
        train.pass(200);
        check.same("hole(15), delivered", train.hole(15), 0);
    }

    // ---- 10: station

    private static void stationTakesStations() {
        check.sentence("if station is not 0 to 7, or what is not 0 to 2");
        for (int what = 0; what < 3; what++) {
            int its = what;
            check.takes(0, 7, INDEX, NightSorters::new, "station(.., " + its + ")", (t, s) -> t.station(s, its));
        }
    }

    private static void stationTakesWhats() {
        check.sentence("if station is not 0 to 7, or what is not 0 to 2");
        check.takes(0, 2, INDEX, NightSorters::new, "station(0, ..)", (train, what) -> train.station(0, what));
        check.takes(0, 2, INDEX, NightSorters::new, "station(7, ..)", (train, what) -> train.station(7, what));
    }

    private static void stationAnswersAtItsEdges() {
        check.sentence("0 the minute in which it is passed, 1 its jolt, 2 letters in its bag");
        NightSorters train = new NightSorters();
        train.setStation(0, 1, 3);
        train.setStation(7, 999, 0);
        check.same("station(0, 0)", train.station(0, 0), 1);
        check.same("station(0, 1)", train.station(0, 1), 3);
        check.same("station(7, 0)", train.station(7, 0), 999);
        check.same("station(7, 1)", train.station(7, 1), 0);
        check.same("station(0, 2), an empty bag", train.station(0, 2), 0);
        Trains.postMany(train, 0, 15, 60);
        check.same("station(0, 2), a full bag", train.station(0, 2), 60);
        check.same("station(7, 2)", train.station(7, 2), 0);
        train.pass(2);
        check.same("station(0, 0), passed", train.station(0, 0), 1);
        check.same("station(0, 1), passed", train.station(0, 1), 3);
        check.same("station(0, 2), passed", train.station(0, 2), 0);
    }

    // ---- 11: count

    private static void countTakesWhats() {
        check.sentence("if what is not 0 to 9");
        check.takes(0, 9, INDEX, NightSorters::new, "count", (train, what) -> train.count(what));
    }

    private static void countsOfNothing() {
        check.sentence("1 letters, 2 sorters, 3 letters in bags, 4 on the table, 5 in hands, 6 in holes");
        NightSorters train = new NightSorters();
        train.pass(300);
        for (int what = 1; what <= 8; what++) {
            check.same("count(" + what + ")", train.count(what), 0);
        }
    }

    private static void countsOfAllLetters() {
        check.sentence("3 letters in bags, 4 on the table, 5 in hands, 6 in holes, 7 delivered, 8 late");
        NightSorters late = sixtyLetters();
        int[] minutes = {20, 21, 160, 161};
        int[] places = {3, 4, 4, 8};
        for (int i = 0; i < 4; i++) {
            Trains.to(late, minutes[i]);
            for (int what = 3; what <= 8; what++) {
                check.same("count(" + what + ") in " + minutes[i], late.count(what), what == places[i] ? 60 : 0);
            }
        }
        NightSorters delivered = Trains.with(Trains.sorter(1, ALL), Trains.sorter(1, ALL), Trains.sorter(1, ALL),
            Trains.sorter(2, ALL));
        for (int letter = 0; letter < 60; letter++) {
            delivered.post(0, 8 + letter / 8);
        }
        check.same("count(1)", delivered.count(1), 60);
        check.same("count(2)", delivered.count(2), 4);
        Trains.to(delivered, 22);
        check.same("count(5) of the slowest one", delivered.count(5), 1);
        Trains.to(delivered, 100);
        check.same("count(6), all in holes", delivered.count(6), 60);
        check.same("count(4), all in holes", delivered.count(4), 0);
        Trains.to(delivered, 161);
        check.same("count(7), all delivered", delivered.count(7), 60);
        check.same("count(6), all delivered", delivered.count(6), 0);
        NightSorters hands = Trains.with(Trains.sorter(9, ALL), Trains.sorter(9, ALL), Trains.sorter(9, ALL),
            Trains.sorter(9, ALL));
        Trains.postMany(hands, 0, 15, 5);
        Trains.to(hands, 22);
        check.same("count(5), all hands", hands.count(5), 4);
        check.same("count(4), the fifth letter", hands.count(4), 1);
    }

    private static void countOfTheNextStation() {
        check.sentence("9 the station that is passed next (in this minute or later), 8 if there is none");
        NightSorters train = new NightSorters();
        check.same("count(9) in 0", train.count(9), 0);
        for (int station = 0; station < 8; station++) {
            Trains.to(train, 20 * station + 20);
            check.same("count(9) in the minute of " + station, train.count(9), station);
            train.pass(1);
            check.same("count(9) behind " + station, train.count(9), station + 1);
        }
        train.pass(300);
        check.same("count(9), long behind", train.count(9), 8);
    }

    // ---- 12: pass

    private static void passTakes1To300() {
        check.sentence("if minutes is not 1 to 300");
        check.takes(1, 300, ARGUMENT, NightSorters::new, "pass", (train, minutes) -> train.pass(minutes));
    }

    private static void passGoesBySoMany() {
        check.sentence("Lets minutes go by.");
        for (int minutes = 1; minutes <= 300; minutes++) {
            NightSorters train = new NightSorters();
            train.pass(minutes);
            check.same("count(0) behind pass(" + minutes + ")", train.count(0), minutes);
        }
    }

    private static void passCountsTheLastMinute() {
        check.sentence("Returns how many letters are delivered in them.");
        for (int minutes = 40; minutes <= 42; minutes++) {
            NightSorters train = Trains.with(Trains.sorter(1, ALL));
            train.post(0, 2);
            check.same("pass(" + minutes + ")", train.pass(minutes), minutes >= 41 ? 1 : 0);
        }
        for (int minute = 299; minute <= 300; minute++) {
            NightSorters train = Trains.with(Trains.sorter(1, ALL));
            train.setStation(7, minute, 0);
            train.post(0, 15);
            check.same("pass(300), station 7 in " + minute, train.pass(300), 300 - minute);
        }
    }

    private static void passCountsOnlyItsOwn() {
        check.sentence("Returns how many letters are delivered in them.");
        NightSorters train = Trains.with(Trains.sorter(1, ALL));
        Trains.post(train, 0, 2, 4, 4, 1);
        check.same("pass(41)", train.pass(41), 1);
        check.same("pass(1), those before do not count", train.pass(1), 0);
        check.same("pass(18)", train.pass(18), 0);
        check.same("pass(1)", train.pass(1), 2);
        check.same("pass(300)", train.pass(300), 0);
    }

    private static void passCountsNoneAndAll() {
        check.sentence("Returns how many letters are delivered in them.");
        check.same("pass(300) without letters", new NightSorters().pass(300), 0);
        check.same("pass(300), all late", sixtyLetters().pass(300), 0);
        NightSorters all = Trains.with(Trains.sorter(1, ALL), Trains.sorter(1, ALL), Trains.sorter(1, ALL),
            Trains.sorter(1, ALL));
        for (int letter = 0; letter < 60; letter++) {
            all.post(0, 8 + letter / 8);
        }
        check.same("pass(300), all delivered", all.pass(300), 60);
    }
}
