/** Promise 12, pass, and what "Terms" says that a minute does. */
public final class MinutesTest {
    private static final int ALL = Trains.ALL;

    private static final Check check = new Check("MinutesTest");

    public static void main(String[] args) {
        passAnswersAndLimits();
        passCountsOnlyItsOwnDeliveries();
        takesTheSmallestNumberOfTheOwnTowns();
        needsPace();
        needsMoreWhenTired();
        needsLessWithTea();
        keepsTheMinutesItTook();
        fullHole();
        sortersGoOneBehindTheOther();
        sortersShareTheTable();
        sortedInTheMinuteOfTheStation();
        bagComesBehindTheSorters();
        lateOnTheTableAndInHands();
        bagLettersForPassedTownsAreLate();
        passedBagsStay();
        movedStations();
        jolts();
        joltSpillsTheFullestHole();
        joltBehindTheStationOfItsMinute();
        joltOfAllEmptyHoles();
        joltTiresButLeavesTheMinutes();
        joltsOfStationsCloseTogether();
        check.end();
    }

    private static void passAnswersAndLimits() {
        NightSorters train = Trains.with();
        check.same("pass(1)", train.pass(1), 0);
        check.same("pass(300)", train.pass(300), 0);
        check.same("count(0)", train.count(0), 301);
        for (int minutes : new int[] {0, -1, 301, Integer.MIN_VALUE, Integer.MAX_VALUE}) {
            check.argumentRefused(train, "pass(" + minutes + ")", () -> train.pass(minutes));
        }
    }

    private static void passCountsOnlyItsOwnDeliveries() {
        NightSorters train = Trains.with(Trains.sorter(1, ALL));
        Trains.post(train, 0, 2, 3, 4, 15);
        check.same("pass(40)", train.pass(40), 0);
        check.same("pass(1)", train.pass(1), 2);
        check.same("pass(19)", train.pass(19), 0);
        check.same("pass(101)", train.pass(101), 2);
        check.same("pass(300)", train.pass(300), 0);
        check.same("count(7)", train.count(7), 4);
    }

    private static void takesTheSmallestNumberOfTheOwnTowns() {
        NightSorters train = Trains.with(Trains.sorter(2, 1 << 7 | 1 << 9));
        Trains.post(train, 0, 8, 9, 7, 9);
        train.pass(22);
        check.same("sorter(0, 4)", train.sorter(0, 4), 1);
        train.pass(2);
        check.same("sorter(0, 4)", train.sorter(0, 4), 2);
        train.pass(2);
        check.same("sorter(0, 4)", train.sorter(0, 4), 3);
        train.pass(10);
        check.same("sorter(0, 4)", train.sorter(0, 4), -1);
        check.same("letter(0, 0)", train.letter(0, 0), 1);
    }

    private static void needsPace() {
        for (int pace = 1; pace <= 9; pace++) {
            NightSorters train = Trains.with(Trains.sorter(pace, ALL));
            Trains.post(train, 0, 14);
            train.pass(21 + pace - 1);
            check.same("letter(0, 0), pace " + pace, train.letter(0, 0), pace == 1 ? 1 : 2);
            check.same("sorter(0, 5)", train.sorter(0, 5), pace == 1 ? 0 : 1);
            train.pass(1);
            check.same("letter(0, 0), pace " + pace, train.letter(0, 0), 3);
            check.same("sorter(0, 2)", train.sorter(0, 2), 1);
            check.same("sorter(0, 4)", train.sorter(0, 4), -1);
            check.same("sorter(0, 6)", train.sorter(0, 6), 1);
        }
    }

    private static void needsMoreWhenTired() {
        NightSorters train = Trains.with(Trains.sorter(1, ALL));
        Trains.post(train, 0, 15, 15, 15, 15, 15, 15, 14, 14, 14, 14, 14);
        train.pass(26);
        check.same("sorter(0, 6)", train.sorter(0, 6), 5);
        train.pass(1);
        check.same("sorter(0, 5), tired by 5", train.sorter(0, 5), 1);
        train.pass(9);
        check.same("sorter(0, 6)", train.sorter(0, 6), 10);
        train.pass(1);
        check.same("sorter(0, 5), tired by 10", train.sorter(0, 5), 2);
    }

    private static void needsLessWithTea() {
        int[] needed = {1, 1, 1, 2, 3, 4, 5, 6, 7};
        for (int pace = 1; pace <= 9; pace++) {
            NightSorters train = Trains.with(Trains.sorter(pace, ALL));
            train.tea(0);
            Trains.post(train, 0, 14);
            train.pass(21 + needed[pace - 1] - 1);
            check.same("sorter(0, 6), pace " + pace, train.sorter(0, 6), 0);
            train.pass(1);
            check.same("sorter(0, 6), pace " + pace, train.sorter(0, 6), 1);
        }
    }

    private static void keepsTheMinutesItTook() {
        NightSorters train = Trains.with(Trains.sorter(9, ALL));
        Trains.post(train, 0, 15, 15);
        train.pass(22);
        train.tea(0);
        check.same("sorter(0, 5)", train.sorter(0, 5), 8);
        train.pass(8);
        check.same("letter(0, 0)", train.letter(0, 0), 3);
        train.pass(1);
        check.same("sorter(0, 5), the next with tea", train.sorter(0, 5), 6);
    }

    private static void fullHole() {
        NightSorters train = Trains.with(Trains.sorter(1, 1 << 14));
        train.tea(0);
        Trains.post(train, 0, 14, 14, 14, 14, 14, 14, 14, 14, 14);
        train.pass(29);
        check.same("hole(14)", train.hole(14), 8);
        check.same("count(4)", train.count(4), 1);
        train.pass(1);
        check.same("hole(14)", train.hole(14), 8);
        check.same("letter(8, 0)", train.letter(8, 0), 1);
        check.same("letter(8, 3)", train.letter(8, 3), -1);
        check.same("sorter(0, 2)", train.sorter(0, 2), 9);
        check.same("sorter(0, 4)", train.sorter(0, 4), -1);
        check.same("sorter(0, 5)", train.sorter(0, 5), 0);
        check.same("sorter(0, 6)", train.sorter(0, 6), 8);
        train.pass(131);
        check.same("count(7)", train.count(7), 8);
        check.same("letter(8, 0)", train.letter(8, 0), 5);
    }

    /** What the first sorter puts back onto the table the second one can take in the same minute. */
    private static void sortersGoOneBehindTheOther() {
        NightSorters train = Trains.with(Trains.sorter(1, 1 << 14), Trains.sorter(9, 0));
        train.tea(0);
        Trains.post(train, 0, 14, 14, 14, 14, 14, 14, 14, 14, 14);
        train.pass(29);
        train.tea(0);
        train.assign(1, 1 << 14);
        train.pass(1);
        check.same("letter(8, 3)", train.letter(8, 3), 1);
        check.same("sorter(0, 2)", train.sorter(0, 2), 1);
        check.same("sorter(1, 4)", train.sorter(1, 4), 8);
        check.same("sorter(1, 5)", train.sorter(1, 5), 8);
    }

    private static void sortersShareTheTable() {
        NightSorters train = Trains.with(Trains.sorter(3, ALL), Trains.sorter(2, 1 << 10), Trains.sorter(2, ALL),
            Trains.sorter(1, ALL));
        Trains.post(train, 0, 10, 11, 12, 13);
        train.pass(22);
        check.same("sorter(0, 4)", train.sorter(0, 4), 0);
        check.same("sorter(1, 4)", train.sorter(1, 4), -1);
        check.same("sorter(2, 4)", train.sorter(2, 4), 1);
        check.same("letter(2, 0), sorted at once", train.letter(2, 0), 3);
        check.same("letter(3, 0)", train.letter(3, 0), 1);
        check.same("count(5)", train.count(5), 2);
    }

    private static void sortedInTheMinuteOfTheStation() {
        NightSorters train = Trains.with(Trains.sorter(9, ALL));
        Trains.post(train, 0, 2);
        train.setStation(1, 29, 0);
        check.same("pass(30)", train.pass(30), 1);
        check.same("letter(0, 4)", train.letter(0, 4), 29);
        check.same("sorter(0, 2)", train.sorter(0, 2), 1);
    }

    private static void bagComesBehindTheSorters() {
        NightSorters train = Trains.with(Trains.sorter(1, ALL));
        Trains.post(train, 0, 15);
        train.pass(20);
        check.same("count(3) in 20", train.count(3), 1);
        train.pass(1);
        check.same("count(3) in 21", train.count(3), 0);
        check.same("count(4) in 21", train.count(4), 1);
        train.pass(1);
        check.same("count(6) in 22", train.count(6), 1);
    }

    private static void lateOnTheTableAndInHands() {
        NightSorters train = Trains.with(Trains.sorter(9, 1 << 2 | 1 << 15));
        Trains.post(train, 0, 2, 2, 3, 4);
        train.setStation(1, 28, 0);
        check.same("pass(28)", train.pass(28), 0);
        check.same("letter(0, 0)", train.letter(0, 0), 2);
        check.same("pass(1)", train.pass(1), 0);
        for (int letter = 0; letter < 3; letter++) {
            check.same("letter(" + letter + ", 0)", train.letter(letter, 0), 5);
            check.same("letter(" + letter + ", 3)", train.letter(letter, 3), -1);
            check.same("letter(" + letter + ", 4)", train.letter(letter, 4), 28);
        }
        check.same("letter(3, 0)", train.letter(3, 0), 1);
        check.same("sorter(0, 2)", train.sorter(0, 2), 0);
        check.same("sorter(0, 4)", train.sorter(0, 4), -1);
        check.same("sorter(0, 5)", train.sorter(0, 5), 0);
        check.same("sorter(0, 6)", train.sorter(0, 6), 0);
    }

    private static void bagLettersForPassedTownsAreLate() {
        NightSorters train = Trains.with();
        Trains.post(train, 2, 0, 3, 4, 5, 6, 15);
        train.pass(41);
        check.same("count(8), still in the bag", train.count(8), 0);
        train.pass(20);
        int[] due = {5, 5, 5, 5, 1, 1};
        for (int letter = 0; letter < 6; letter++) {
            check.same("letter(" + letter + ", 0)", train.letter(letter, 0), due[letter]);
            check.same("letter(" + letter + ", 4)", train.letter(letter, 4), due[letter] == 5 ? 60 : -1);
        }
    }

    private static void passedBagsStay() {
        NightSorters train = Trains.with(Trains.sorter(1, ALL));
        train.pass(21);
        Trains.post(train, 0, 0, 1, 2, 15);
        train.pass(300);
        for (int letter = 0; letter < 4; letter++) {
            check.same("letter(" + letter + ", 0)", train.letter(letter, 0), 0);
        }
        NightSorters inTime = Trains.with(Trains.sorter(1, ALL));
        inTime.pass(20);
        Trains.post(inTime, 0, 15);
        inTime.pass(1);
        check.same("letter(0, 0), posted in the minute", inTime.letter(0, 0), 1);
    }

    private static void movedStations() {
        NightSorters train = Trains.with(Trains.sorter(1, ALL));
        Trains.post(train, 0, 2);
        train.setStation(0, 5, 0);
        train.setStation(1, 6, 0);
        train.pass(6);
        check.same("letter(0, 0)", train.letter(0, 0), 1);
        train.setStation(1, 7, 0);
        check.same("pass(2)", train.pass(2), 1);
        check.same("letter(0, 4)", train.letter(0, 4), 7);
        check.same("pass(100)", train.pass(100), 0);
    }

    /** Tea, a hole with a letter, and being tired, around the fifth minute behind a jolt of each kind. */
    private static void jolts() {
        for (int jolt = 0; jolt <= 3; jolt++) {
            NightSorters train = Trains.with(Trains.sorter(1, 1 << 15), Trains.sorter(1, 0));
            train.setStation(0, 20, jolt);
            Trains.post(train, 0, 15);
            train.pass(22);
            train.tea(0);
            train.tea(1);
            train.assign(0, 0);
            train.pass(3);
            check.same("sorter(0, 3) ahead of jolt " + jolt, train.sorter(0, 3), 1);
            check.same("hole(15) ahead of jolt " + jolt, train.hole(15), 1);
            check.same("sorter(0, 2) ahead of jolt " + jolt, train.sorter(0, 2), 0);
            train.pass(1);
            for (int sorter = 0; sorter < 2; sorter++) {
                check.same("sorter(.., 3) behind jolt " + jolt, train.sorter(sorter, 3), jolt >= 1 ? 0 : 1);
                check.same("sorter(.., 2) behind jolt " + jolt, train.sorter(sorter, 2), jolt >= 3 ? 3 : 0);
            }
            check.same("hole(15) behind jolt " + jolt, train.hole(15), jolt >= 2 ? 0 : 1);
            check.same("letter(0, 0) behind jolt " + jolt, train.letter(0, 0), jolt >= 2 ? 1 : 3);
            check.same("sorter(0, 6) behind jolt " + jolt, train.sorter(0, 6), 1);
            train.tea(0);
            train.pass(10);
            check.same("sorter(0, 3) later", train.sorter(0, 3), 1);
        }
    }

    private static void joltSpillsTheFullestHole() {
        NightSorters train = Trains.with(Trains.sorter(1, ALL), Trains.sorter(1, ALL));
        train.setStation(0, 20, 2);
        Trains.post(train, 0, 9, 12, 13, 12, 13);
        train.pass(25);
        check.same("count(6)", train.count(6), 5);
        train.pass(1);
        check.same("hole(9)", train.hole(9), 1);
        check.same("hole(12)", train.hole(12), 0);
        check.same("hole(13)", train.hole(13), 2);
        check.same("letter(1, 0)", train.letter(1, 0), 1);
        check.same("letter(3, 0)", train.letter(3, 0), 1);
        check.same("letter(2, 0)", train.letter(2, 0), 3);
    }

    /** In one minute the holes of the station are emptied first; the jolt spills what is left. */
    private static void joltBehindTheStationOfItsMinute() {
        NightSorters train = Trains.with(Trains.sorter(1, ALL), Trains.sorter(1, ALL));
        train.setStation(0, 20, 2);
        train.setStation(1, 25, 0);
        Trains.post(train, 0, 2, 2, 15);
        check.same("pass(26)", train.pass(26), 2);
        check.same("letter(2, 0)", train.letter(2, 0), 1);
        check.same("count(8)", train.count(8), 0);
    }

    private static void joltOfAllEmptyHoles() {
        NightSorters train = Trains.with(Trains.sorter(1, 0));
        train.setStation(0, 20, 3);
        Trains.post(train, 0, 15);
        train.pass(26);
        check.same("letter(0, 0)", train.letter(0, 0), 1);
        check.same("sorter(0, 2)", train.sorter(0, 2), 3);
        check.same("hole(0)", train.hole(0), 0);
    }

    private static void joltTiresButLeavesTheMinutes() {
        NightSorters train = Trains.with(Trains.sorter(8, ALL));
        train.setStation(0, 20, 3);
        train.tea(0);
        Trains.post(train, 0, 15, 15);
        train.pass(26);
        check.same("sorter(0, 5)", train.sorter(0, 5), 1);
        check.same("sorter(0, 4)", train.sorter(0, 4), 0);
        train.pass(1);
        check.same("sorter(0, 2)", train.sorter(0, 2), 4);
        train.pass(1);
        check.same("sorter(0, 5), the next without tea", train.sorter(0, 5), 7);
    }

    private static void joltsOfStationsCloseTogether() {
        NightSorters train = Trains.with(Trains.sorter(1, 0));
        train.setStation(0, 1, 3);
        train.setStation(1, 2, 1);
        train.setStation(2, 3, 3);
        train.tea(0);
        train.pass(6);
        check.same("sorter(0, 2) in 6", train.sorter(0, 2), 0);
        train.pass(1);
        check.same("sorter(0, 2) in 7", train.sorter(0, 2), 3);
        check.same("tea(0)", train.tea(0), 3);
        train.pass(1);
        check.same("sorter(0, 3) in 8", train.sorter(0, 3), 0);
        check.same("sorter(0, 2) in 8", train.sorter(0, 2), 0);
        train.pass(1);
        check.same("sorter(0, 2) in 9", train.sorter(0, 2), 3);
    }
}
