/** "A minute goes like this": each of its sentences at its edges, in the document's order. */
public final class MinuteEdgesTest {
    private static final int ALL = Trains.ALL;

    private static final Check check = new Check("MinuteEdgesTest");

    public static void main(String[] args) {
        sortersByNumbers();
        laterSorterTakesWhatAnEarlierOnePutsBack();
        earlierSorterWaitsForWhatALaterOnePutsBack();
        fullHandsTakeNone();
        smallestNumberOnTheTable();
        smallestNumberOfTheOwnTowns();
        emptyTable();
        minutesStayAsTheyWereTaken();
        lessInTheMinuteOfTaking();
        oneMinuteLeftAndNone();
        holeWithLessThan8();
        holeWith8();
        holeHasRoomAgainBehindASpill();
        tiredByOneAndFree();
        oneLetterAMinute();
        inTheMinuteOfTheStation();
        stationsInEachMinuteOneBehindTheOther();
        bothHolesAreDelivered();
        emptyHolesAreDelivered();
        sortersComeAheadOfTheStation();
        othersAreLate();
        handsWithALateLetterAreFree();
        handsWithAnotherLetterAreNot();
        bagComesBehindTheSorters();
        bagsEmptyAndFull();
        onlyTheBagOfTheStation();
        lettersInTheBagForTownsUpToThisStation();
        lettersInABagAreLateWithTheBag();
        bagOfAPassedStation();
        fiveMinutesBehindEachStation();
        noJoltOfAMinuteThatIsNone();
        joltOf1SpillsAllTea();
        joltOf2SpillsAHole();
        joltOf2SpillsOnlyTheFullestHole();
        joltOf2SpillsAFullHole();
        joltOf2WithoutLetters();
        joltOf2TheSmallestTownOfSeveral();
        joltOf3TiresEachSorter();
        joltComesBehindTheSorters();
        joltComesBehindTheStation();
        joltsInMinutesOneBehindTheOther();
        minuteIsOneGreater();
        check.end();
    }

    /** What sorter() tells from 2 on: tired, tea, the letter, the minutes, letters in holes. */
    private static void sorterIs(String told, NightSorters train, int sorter, int... due) {
        for (int what = 0; what < due.length; what++) {
            String call = "sorter(" + sorter + ", " + (what + 2) + "), " + told;
            check.same(call, train.sorter(sorter, what + 2), due[what]);
        }
    }

    // ---- 1. Sorters, by numbers.

    private static void sortersByNumbers() {
        check.sentence("Sorters, by numbers.");
        NightSorters train = Trains.with(Trains.sorter(9, ALL), Trains.sorter(9, ALL), Trains.sorter(9, ALL),
            Trains.sorter(9, ALL));
        Trains.post(train, 0, 15, 15, 15);
        train.pass(22);
        for (int sorter = 0; sorter < 4; sorter++) {
            check.same("sorter(" + sorter + ", 4)", train.sorter(sorter, 4), sorter < 3 ? sorter : -1);
        }
    }

    /** A full hole of town 14, and its ninth letter in the hands of the quick sorter for one minute yet. */
    private static NightSorters ninthLetterInHands(int quick, int slow) {
        NightSorters train = new NightSorters();
        for (int sorter = 0; sorter < 2; sorter++) {
            train.hire(sorter == quick ? 2 : 9, sorter == quick ? 1 << 14 : 0);
        }
        Trains.leaveALongNight(train);
        Trains.postMany(train, 0, 14, 9);
        // Five letters of 2 minutes each and three of 3; then the ninth needs 3.
        Trains.to(train, 23);
        check.same("hole(14)", train.hole(14), 8);
        sorterIs("with the ninth letter", train, quick, 8, 0, 8, 1, 8);
        train.assign(slow, 1 << 14);
        return train;
    }

    private static void laterSorterTakesWhatAnEarlierOnePutsBack() {
        check.sentence("Sorters, by numbers.");
        NightSorters train = ninthLetterInHands(0, 1);
        train.pass(1);
        sorterIs("put back", train, 0, 9, 0, -1, 0, 8);
        sorterIs("taken in the same minute", train, 1, 0, 0, 8, 8, 0);
    }

    private static void earlierSorterWaitsForWhatALaterOnePutsBack() {
        check.sentence("Sorters, by numbers.");
        NightSorters train = ninthLetterInHands(1, 0);
        train.pass(1);
        sorterIs("put back", train, 1, 9, 0, -1, 0, 8);
        sorterIs("not taken in the same minute", train, 0, 0, 0, -1, 0, 0);
        check.same("letter(8, 0)", train.letter(8, 0), 1);
        train.pass(1);
        sorterIs("taken in the next minute", train, 0, 0, 0, 8, 8, 0);
        sorterIs("too late for it", train, 1, 9, 0, -1, 0, 8);
    }

    // ---- One with free hands takes the letter with the smallest number ..

    private static void fullHandsTakeNone() {
        check.sentence("One with free hands takes the letter");
        NightSorters train = Trains.with(Trains.sorter(9, ALL));
        train.setStation(1, 22, 0);
        train.post(1, 15);
        train.post(0, 15);
        for (int minute = 22; minute <= 29; minute++) {
            Trains.to(train, minute);
            check.same("sorter(0, 4) in " + minute, train.sorter(0, 4), 1);
            check.same("letter(0, 0) in " + minute, train.letter(0, 0), minute == 22 ? 0 : 1);
        }
        train.pass(1);
        check.same("sorter(0, 4) in 30", train.sorter(0, 4), -1);
        train.pass(1);
        check.same("sorter(0, 4) in 31", train.sorter(0, 4), 0);
    }

    private static void smallestNumberOnTheTable() {
        check.sentence("the letter with the smallest number of those on the table");
        NightSorters train = Trains.with(Trains.sorter(5, ALL));
        train.setStation(1, 22, 0);
        train.post(2, 15);
        train.post(1, 15);
        train.post(0, 15);
        train.post(0, 14);
        int[] taken = {2, 1, 3};
        for (int turn = 0; turn < 3; turn++) {
            Trains.to(train, 22 + 5 * turn);
            check.same("sorter(0, 4), turn " + turn, train.sorter(0, 4), taken[turn]);
        }
        NightSorters full = Trains.with(Trains.sorter(9, ALL));
        Trains.postMany(full, 1, 15, 59);
        full.post(0, 15);
        full.pass(22);
        check.same("sorter(0, 4), the 60th letter", full.sorter(0, 4), 59);
    }

    private static void smallestNumberOfTheOwnTowns() {
        check.sentence("that are for the own towns, if there is one");
        NightSorters train = Trains.with(Trains.sorter(1, 1 << 13 | 1 << 15));
        Trains.post(train, 0, 14, 15, 12, 13);
        int[] taken = {1, 3};
        for (int turn = 0; turn < 2; turn++) {
            Trains.to(train, 22 + turn);
            check.same("count(6), turn " + turn, train.count(6), turn + 1);
            check.same("letter(" + taken[turn] + ", 0)", train.letter(taken[turn], 0), 3);
        }
        train.pass(10);
        check.same("letter(0, 0)", train.letter(0, 0), 1);
        check.same("letter(2, 0)", train.letter(2, 0), 1);
        sorterIs("no own letter on the table", train, 0, 2, 0, -1, 0, 2);
    }

    private static void emptyTable() {
        check.sentence("if there is one");
        NightSorters train = Trains.with(Trains.sorter(1, ALL));
        train.post(7, 15);
        train.pass(150);
        sorterIs("nothing on the table", train, 0, 0, 0, -1, 0, 0);
        check.same("count(3)", train.count(3), 1);
    }

    /** Tea that is poured or spilled, and a jolt that tires, come too late for the letter in the hands. */
    private static void minutesStayAsTheyWereTaken() {
        check.sentence("with all the minutes that it needs");
        NightSorters poured = Trains.with(Trains.sorter(9, ALL));
        Trains.post(poured, 0, 15, 15);
        Trains.to(poured, 22);
        poured.tea(0);
        sorterIs("tea is poured", poured, 0, 0, 1, 0, 8, 0);
        Trains.to(poured, 31);
        sorterIs("the next letter", poured, 0, 1, 1, 1, 6, 1);
        NightSorters spilled = Trains.with(Trains.sorter(9, ALL));
        spilled.setStation(0, 20, 3);
        spilled.tea(0);
        Trains.post(spilled, 0, 15, 15, 15);
        Trains.to(spilled, 26);
        sorterIs("tea is spilled", spilled, 0, 3, 0, 0, 2, 0);
        Trains.to(spilled, 29);
        sorterIs("the next letter, tired by 4", spilled, 0, 4, 0, 1, 8, 1);
        Trains.to(spilled, 38);
        sorterIs("the next letter, tired by 5", spilled, 0, 5, 0, 2, 9, 2);
    }

    // ---- Then one with a letter has a minute less of these ..

    private static void lessInTheMinuteOfTaking() {
        check.sentence("Then one with a letter has a minute less of these");
        NightSorters train = Trains.with(Trains.sorter(9, ALL), Trains.sorter(2, ALL), Trains.sorter(1, ALL));
        Trains.post(train, 0, 15, 15, 15);
        train.pass(21);
        sorterIs("ahead of it", train, 0, 0, 0, -1, 0, 0);
        train.pass(1);
        sorterIs("pace 9", train, 0, 0, 0, 0, 8, 0);
        sorterIs("pace 2", train, 1, 0, 0, 1, 1, 0);
        sorterIs("pace 1", train, 2, 1, 0, -1, 0, 1);
    }

    private static void oneMinuteLeftAndNone() {
        check.sentence("with none left the letter is in its hole");
        NightSorters train = Trains.with(Trains.sorter(9, ALL));
        train.post(0, 15);
        Trains.to(train, 29);
        sorterIs("one minute left", train, 0, 0, 0, 0, 1, 0);
        check.same("letter(0, 0)", train.letter(0, 0), 2);
        train.pass(1);
        sorterIs("none left", train, 0, 1, 0, -1, 0, 1);
        check.same("letter(0, 0)", train.letter(0, 0), 3);
        check.same("letter(0, 3)", train.letter(0, 3), -1);
    }

    private static NightSorters lettersSorted(int letters) {
        NightSorters train = Trains.with(Trains.sorter(1, ALL));
        Trains.leaveALongNight(train);
        train.tea(0);
        Trains.postMany(train, 0, 15, letters);
        Trains.to(train, 2 + letters);
        return train;
    }

    private static void holeWithLessThan8() {
        check.sentence("the letter is in its hole, if there are less than 8");
        for (int letters = 1; letters <= 8; letters++) {
            NightSorters train = lettersSorted(letters);
            check.same("hole(15)", train.hole(15), letters);
            check.same("letter(last, 0)", train.letter(letters - 1, 0), 3);
            check.same("count(4)", train.count(4), 0);
        }
    }

    private static void holeWith8() {
        check.sentence("if there are less than 8, otherwise on the table again");
        NightSorters train = lettersSorted(9);
        check.same("hole(15)", train.hole(15), 8);
        check.same("letter(8, 0)", train.letter(8, 0), 1);
        check.same("letter(8, 3)", train.letter(8, 3), -1);
        check.same("letter(8, 4)", train.letter(8, 4), -1);
        check.same("count(4)", train.count(4), 1);
        check.same("count(5)", train.count(5), 0);
        check.same("count(6)", train.count(6), 8);
        // The other town of the station has a hole of its own.
        NightSorters other = Trains.with(Trains.sorter(1, ALL));
        other.tea(0);
        Trains.postMany(other, 0, 15, 8);
        other.post(0, 14);
        Trains.to(other, 30);
        check.same("hole(15)", other.hole(15), 8);
        check.same("hole(14)", other.hole(14), 1);
    }

    private static void holeHasRoomAgainBehindASpill() {
        check.sentence("the letter is in its hole, if there are less than 8");
        NightSorters train = Trains.with(Trains.sorter(1, ALL), Trains.sorter(1, ALL));
        train.setStation(0, 20, 2);
        Trains.postMany(train, 0, 15, 9);
        Trains.to(train, 25);
        check.same("hole(15) ahead of the jolt", train.hole(15), 8);
        train.pass(1);
        check.same("hole(15) behind the jolt", train.hole(15), 0);
        check.same("count(4) behind the jolt", train.count(4), 9);
        // Both were tired by the ninth letter, one behind the other: they need 2 minutes now.
        Trains.to(train, 34);
        check.same("hole(15), sorted once more", train.hole(15), 8);
        check.same("count(4), sorted once more", train.count(4), 1);
        check.same("sorter(0, 6)", train.sorter(0, 6), 8);
        check.same("sorter(1, 6)", train.sorter(1, 6), 8);
    }

    private static void tiredByOneAndFree() {
        check.sentence("the sorter is 1 more tired, and has free hands");
        sorterIs("behind the 8th", lettersSorted(8), 0, 8, 1, -1, 0, 8);
        sorterIs("behind the 9th, for which there is no room", lettersSorted(9), 0, 9, 1, -1, 0, 8);
    }

    private static void oneLetterAMinute() {
        check.sentence("and has free hands");
        NightSorters train = Trains.with(Trains.sorter(1, ALL));
        Trains.post(train, 0, 15, 15, 15);
        for (int minute = 22; minute <= 24; minute++) {
            Trains.to(train, minute);
            check.same("count(6) in " + minute, train.count(6), minute - 21);
            check.same("count(5) in " + minute, train.count(5), 0);
        }
    }

    // ---- 2. In the minute in which the train passes a station ..

    private static void inTheMinuteOfTheStation() {
        check.sentence("In the minute in which the train passes a station");
        for (int station = 1; station < 8; station++) {
            NightSorters train = Trains.with(Trains.sorter(1, 1 << 2 * station));
            Trains.post(train, 0, 2 * station, 2 * station + 1);
            train.post(station, 15);
            Trains.to(train, 20 * station + 20);
            check.same("count(6) ahead of station " + station, train.count(6), 1);
            check.same("count(4) ahead of station " + station, train.count(4), 1);
            check.same("count(3) ahead of station " + station, train.count(3), 1);
            check.same("pass(1)", train.pass(1), 1);
            check.same("count(8) behind station " + station, train.count(8), station == 7 ? 2 : 1);
            check.same("count(3) behind station " + station, train.count(3), 0);
            check.same("pass(300)", train.pass(300), 0);
        }
    }

    private static void stationsInEachMinuteOneBehindTheOther() {
        check.sentence("In the minute in which the train passes a station");
        NightSorters train = new NightSorters();
        for (int station = 0; station < 8; station++) {
            train.setStation(station, station + 3, 0);
            train.post(station, 15);
        }
        for (int station = 0; station < 8; station++) {
            Trains.to(train, station + 4);
            check.same("count(3) in " + (station + 4), train.count(3), 7 - station);
            check.same("letter(" + station + ", 0)", train.letter(station, 0), station == 7 ? 5 : 1);
        }
    }

    private static void bothHolesAreDelivered() {
        check.sentence("all letters in the holes of its towns are delivered");
        NightSorters train = Trains.with(Trains.sorter(1, ALL));
        train.tea(0);
        Trains.postMany(train, 0, 2, 8);
        Trains.postMany(train, 0, 3, 8);
        Trains.postMany(train, 0, 4, 1);
        Trains.to(train, 40);
        check.same("hole(2)", train.hole(2), 8);
        check.same("hole(3)", train.hole(3), 8);
        check.same("hole(4)", train.hole(4), 1);
        check.same("pass(1)", train.pass(1), 16);
        check.same("hole(2)", train.hole(2), 0);
        check.same("hole(3)", train.hole(3), 0);
        check.same("hole(4)", train.hole(4), 1);
        check.same("count(7)", train.count(7), 16);
        for (int letter = 0; letter < 17; letter++) {
            check.same("letter(" + letter + ", 0)", train.letter(letter, 0), letter < 16 ? 4 : 3);
            check.same("letter(" + letter + ", 4)", train.letter(letter, 4), letter < 16 ? 40 : -1);
        }
    }

    private static void emptyHolesAreDelivered() {
        check.sentence("all letters in the holes of its towns are delivered");
        NightSorters train = Trains.with(Trains.sorter(1, ALL));
        Trains.post(train, 0, 4, 15);
        Trains.to(train, 40);
        check.same("pass(1) with two empty holes", train.pass(1), 0);
        check.same("count(6)", train.count(6), 2);
        check.same("count(7)", train.count(7), 0);
        check.same("count(8)", train.count(8), 0);
    }

    private static void sortersComeAheadOfTheStation() {
        check.sentence("all letters in the holes of its towns are delivered");
        for (int minute = 28; minute <= 30; minute++) {
            NightSorters train = Trains.with(Trains.sorter(9, ALL));
            train.setStation(1, minute, 0);
            train.post(0, 2);
            check.same("pass, station 1 in " + minute, train.pass(minute + 1), minute < 29 ? 0 : 1);
            check.same("letter(0, 0)", train.letter(0, 0), minute < 29 ? 5 : 4);
            check.same("letter(0, 4)", train.letter(0, 4), minute);
            sorterIs("station 1 in " + minute, train, 0, minute < 29 ? 0 : 1, 0, -1, 0, minute < 29 ? 0 : 1);
        }
    }

    private static NightSorters stationIn25() {
        NightSorters train = Trains.with(Trains.sorter(9, 1 << 2), Trains.sorter(9, 1 << 4), Trains.sorter(9, 1 << 3));
        train.setStation(1, 25, 0);
        Trains.post(train, 0, 2, 4, 3, 3, 5);
        train.post(2, 2);
        Trains.to(train, 26);
        return train;
    }

    private static void othersAreLate() {
        check.sentence("all others for its towns that are on the table or in hands are late from now on");
        NightSorters train = stationIn25();
        int[] places = {5, 2, 5, 5, 1, 0};
        for (int letter = 0; letter < 6; letter++) {
            check.same("letter(" + letter + ", 0)", train.letter(letter, 0), places[letter]);
            check.same("letter(" + letter + ", 4)", train.letter(letter, 4), places[letter] == 5 ? 25 : -1);
        }
        check.same("count(8)", train.count(8), 3);
        train.pass(300);
        check.same("letter(0, 0), from now on", train.letter(0, 0), 5);
        check.same("letter(0, 4), from now on", train.letter(0, 4), 25);
    }

    private static void handsWithALateLetterAreFree() {
        check.sentence("(those hands are free)");
        NightSorters train = stationIn25();
        sorterIs("its letter is late", train, 0, 0, 0, -1, 0, 0);
        sorterIs("its letter is late", train, 2, 0, 0, -1, 0, 0);
        check.same("letter(0, 3)", train.letter(0, 3), -1);
        check.same("letter(2, 3)", train.letter(2, 3), -1);
        train.assign(0, 1 << 5);
        train.pass(1);
        sorterIs("the next letter", train, 0, 0, 0, 4, 8, 0);
    }

    private static void handsWithAnotherLetterAreNot() {
        check.sentence("(those hands are free)");
        NightSorters train = stationIn25();
        sorterIs("its letter is for station 2", train, 1, 0, 0, 1, 4, 0);
        check.same("letter(1, 3)", train.letter(1, 3), 1);
        check.same("count(5)", train.count(5), 1);
    }

    private static void bagComesBehindTheSorters() {
        check.sentence("then the bag of the station comes onto the table");
        NightSorters train = Trains.with(Trains.sorter(1, ALL));
        train.post(0, 15);
        Trains.to(train, 20);
        check.same("letter(0, 0) in 20", train.letter(0, 0), 0);
        train.pass(1);
        check.same("letter(0, 0) in 21", train.letter(0, 0), 1);
        train.pass(1);
        check.same("letter(0, 0) in 22", train.letter(0, 0), 3);
    }

    private static void bagsEmptyAndFull() {
        check.sentence("then the bag of the station comes onto the table");
        NightSorters empty = new NightSorters();
        Trains.to(empty, 21);
        check.same("count(4), an empty bag", empty.count(4), 0);
        NightSorters full = new NightSorters();
        Trains.postMany(full, 0, 15, 60);
        Trains.to(full, 20);
        check.same("station(0, 2), a full bag", full.station(0, 2), 60);
        full.pass(1);
        check.same("station(0, 2)", full.station(0, 2), 0);
        check.same("count(4)", full.count(4), 60);
        Trains.to(full, 161);
        check.same("count(8)", full.count(8), 60);
    }

    private static void onlyTheBagOfTheStation() {
        check.sentence("then the bag of the station comes onto the table");
        for (int station = 0; station < 7; station++) {
            NightSorters train = new NightSorters();
            for (int from = 0; from < 8; from++) {
                train.post(from, 15);
            }
            Trains.to(train, 20 * station + 21);
            for (int from = 0; from < 8; from++) {
                check.same("letter(" + from + ", 0)", train.letter(from, 0), from <= station ? 1 : 0);
            }
        }
    }

    private static void lettersInTheBagForTownsUpToThisStation() {
        check.sentence("but letters in it for towns of this station or of one passed before are late at once.");
        for (int station = 0; station < 8; station++) {
            NightSorters train = new NightSorters();
            for (int town = 0; town < 16; town++) {
                train.post(station, town);
            }
            Trains.to(train, 20 * station + 21);
            for (int town = 0; town < 16; town++) {
                boolean late = town <= 2 * station + 1;
                String told = "letter for town " + town + " in the bag of " + station;
                check.same(told, train.letter(town, 0), late ? 5 : 1);
                check.same(told + ", its minute", train.letter(town, 4), late ? 20 * station + 20 : -1);
            }
        }
    }

    private static void lettersInABagAreLateWithTheBag() {
        check.sentence("are late at once.");
        NightSorters train = new NightSorters();
        Trains.post(train, 7, 0, 13, 14, 15);
        Trains.to(train, 160);
        check.same("count(3) ahead of the bag", train.count(3), 4);
        check.same("count(8) ahead of the bag", train.count(8), 0);
        train.pass(1);
        check.same("count(8) behind the bag", train.count(8), 4);
        check.same("letter(0, 4)", train.letter(0, 4), 160);
    }

    private static void bagOfAPassedStation() {
        check.sentence("Letters that lie in a bag of a station that is passed already stay there.");
        for (int station = 0; station < 8; station++) {
            NightSorters train = Trains.with(Trains.sorter(1, ALL));
            Trains.to(train, 20 * station + 20);
            train.post(station, 15);
            train.pass(1);
            check.same("letter(0, 0), posted in the minute of " + station, train.letter(0, 0), station == 7 ? 5 : 1);
            Trains.post(train, station, 15, 0, 2 * station);
            train.pass(300);
            for (int letter = 1; letter < 4; letter++) {
                check.same("letter(" + letter + ", 0), posted behind " + station, train.letter(letter, 0), 0);
                check.same("letter(" + letter + ", 4), posted behind " + station, train.letter(letter, 4), -1);
            }
            check.same("station(" + station + ", 2)", train.station(station, 2), 3);
        }
    }

    // ---- 3. 5 minutes behind passing a station with a jolt ..

    private static void fiveMinutesBehindEachStation() {
        check.sentence("5 minutes behind passing a station with a jolt of 1 or more all tea is spilled");
        for (int station = 0; station < 8; station++) {
            NightSorters train = Trains.with(Trains.sorter(1, 0));
            train.setStation(station, 20 * station + 20, 1);
            train.tea(0);
            Trains.to(train, 20 * station + 25);
            check.same("sorter(0, 3), 4 minutes behind " + station, train.sorter(0, 3), 1);
            train.pass(1);
            check.same("sorter(0, 3), 5 minutes behind " + station, train.sorter(0, 3), 0);
            train.tea(0);
            train.pass(300);
            check.same("sorter(0, 3), later", train.sorter(0, 3), 1);
        }
    }

    /** The station that is passed in 1 jolts in 6, not ahead of it, and no station jolts in the minutes 0 to 5. */
    private static void noJoltOfAMinuteThatIsNone() {
        check.sentence("5 minutes behind passing a station");
        NightSorters train = Trains.with(Trains.sorter(1, 0));
        train.setStation(0, 1, 3);
        train.tea(0);
        Trains.to(train, 6);
        sorterIs("ahead of the minute 6", train, 0, 0, 1, -1, 0, 0);
        train.pass(1);
        sorterIs("behind the minute 6", train, 0, 3, 0, -1, 0, 0);
    }

    /** The minute of the jolt, with four sorters, one of them tired by 4. */
    private static NightSorters aheadOfAJolt(int jolt) {
        NightSorters train = Trains.with(Trains.sorter(1, ALL), Trains.sorter(1, 0), Trains.sorter(1, 0),
            Trains.sorter(1, 0));
        train.setStation(0, 15, jolt);
        Trains.post(train, 0, 15, 14, 15, 14);
        Trains.to(train, 20);
        check.same("sorter(0, 2) ahead of the jolt", train.sorter(0, 2), 4);
        return train;
    }

    private static void joltOf1SpillsAllTea() {
        check.sentence("with a jolt of 1 or more all tea is spilled");
        for (int jolt = 0; jolt <= 3; jolt++) {
            NightSorters train = Trains.with(Trains.sorter(1, 0), Trains.sorter(1, 0), Trains.sorter(1, 0),
                Trains.sorter(1, 0));
            train.setStation(0, 20, jolt);
            train.tea(0);
            train.tea(2);
            train.tea(3);
            Trains.to(train, 26);
            for (int sorter = 0; sorter < 4; sorter++) {
                int due = jolt == 0 && sorter != 1 ? 1 : 0;
                check.same("sorter(" + sorter + ", 3) behind jolt " + jolt, train.sorter(sorter, 3), due);
            }
        }
    }

    /** Letters in holes at the fifth minute behind the first station: two for town 15, one for town 14. */
    private static NightSorters threeInHoles(int jolt) {
        NightSorters train = Trains.with(Trains.sorter(1, ALL));
        train.setStation(0, 20, jolt);
        Trains.post(train, 0, 15, 14, 15);
        Trains.to(train, 25);
        check.same("count(6) ahead of the jolt", train.count(6), 3);
        return train;
    }

    private static void joltOf2SpillsAHole() {
        check.sentence("with one of 2 or more all letters of the hole with the most letters");
        for (int jolt = 0; jolt <= 3; jolt++) {
            NightSorters train = threeInHoles(jolt);
            train.pass(1);
            check.same("hole(15) behind jolt " + jolt, train.hole(15), jolt >= 2 ? 0 : 2);
            check.same("count(4) behind jolt " + jolt, train.count(4), jolt >= 2 ? 2 : 0);
            check.same("letter(0, 0) behind jolt " + jolt, train.letter(0, 0), jolt >= 2 ? 1 : 3);
            check.same("letter(2, 0) behind jolt " + jolt, train.letter(2, 0), jolt >= 2 ? 1 : 3);
            check.same("letter(2, 4) behind jolt " + jolt, train.letter(2, 4), -1);
        }
    }

    private static void joltOf2SpillsOnlyTheFullestHole() {
        check.sentence("all letters of the hole with the most letters");
        for (int jolt = 2; jolt <= 3; jolt++) {
            NightSorters train = threeInHoles(jolt);
            train.pass(1);
            check.same("hole(14) behind jolt " + jolt, train.hole(14), 1);
            check.same("letter(1, 0) behind jolt " + jolt, train.letter(1, 0), 3);
            check.same("count(6) behind jolt " + jolt, train.count(6), 1);
        }
    }

    private static void joltOf2SpillsAFullHole() {
        check.sentence("all letters of the hole with the most letters");
        NightSorters train = Trains.with(Trains.sorter(1, 1 << 15), Trains.sorter(1, 1 << 15),
            Trains.sorter(1, 1 << 2), Trains.sorter(1, 1 << 2));
        train.setStation(0, 20, 2);
        train.tea(2);
        train.tea(3);
        Trains.postMany(train, 0, 15, 8);
        Trains.postMany(train, 0, 2, 7);
        Trains.to(train, 25);
        check.same("hole(15) ahead of the jolt", train.hole(15), 8);
        check.same("hole(2) ahead of the jolt", train.hole(2), 7);
        train.pass(1);
        check.same("hole(15) behind the jolt", train.hole(15), 0);
        check.same("hole(2) behind the jolt", train.hole(2), 7);
        check.same("count(4) behind the jolt", train.count(4), 8);
    }

    private static void joltOf2WithoutLetters() {
        check.sentence("all letters of the hole with the most letters");
        NightSorters none = new NightSorters();
        none.setStation(0, 20, 2);
        Trains.to(none, 26);
        check.same("count(1), no letters at all", none.count(1), 0);
        check.same("count(4), no letters at all", none.count(4), 0);
        NightSorters empty = Trains.with(Trains.sorter(9, 1 << 15));
        empty.setStation(0, 20, 2);
        Trains.post(empty, 0, 15, 14, 0);
        empty.post(1, 15);
        Trains.to(empty, 26);
        int[] places = {2, 1, 5, 0};
        for (int letter = 0; letter < 4; letter++) {
            check.same("letter(" + letter + ", 0), empty holes", empty.letter(letter, 0), places[letter]);
        }
    }

    private static void joltOf2TheSmallestTownOfSeveral() {
        check.sentence("of several the one of the town with the smallest number");
        for (int small = 2; small < 15; small++) {
            for (int great = small + 1; great < 16; great++) {
                NightSorters train = Trains.with(Trains.sorter(1, ALL));
                train.setStation(0, 20, 2);
                Trains.post(train, 0, great, small);
                Trains.to(train, 26);
                check.same("hole(" + small + "), as many in " + great, train.hole(small), 0);
                check.same("hole(" + great + "), as many in " + small, train.hole(great), 1);
                NightSorters more = Trains.with(Trains.sorter(1, ALL));
                more.setStation(0, 20, 2);
                Trains.post(more, 0, small, great, great);
                Trains.to(more, 26);
                check.same("hole(" + small + "), less than in " + great, more.hole(small), 1);
                check.same("hole(" + great + "), more than in " + small, more.hole(great), 0);
            }
        }
    }

    private static void joltOf3TiresEachSorter() {
        check.sentence("with 3 each sorter is 3 more tired, too.");
        for (int jolt = 0; jolt <= 3; jolt++) {
            NightSorters train = aheadOfAJolt(jolt);
            train.assign(0, 0);
            train.pass(1);
            int more = jolt == 3 ? 3 : 0;
            check.same("sorter(0, 2) behind jolt " + jolt, train.sorter(0, 2), 4 + more);
            for (int sorter = 1; sorter < 4; sorter++) {
                check.same("sorter(" + sorter + ", 2) behind jolt " + jolt, train.sorter(sorter, 2), more);
            }
        }
    }

    private static void joltComesBehindTheSorters() {
        check.sentence("5 minutes behind passing a station");
        // Sorted in the minute of the jolt, then spilled.
        NightSorters train = Trains.with(Trains.sorter(5, ALL));
        train.setStation(0, 20, 2);
        train.post(0, 15);
        Trains.to(train, 26);
        check.same("letter(0, 0)", train.letter(0, 0), 1);
        sorterIs("sorted ahead of the jolt", train, 0, 1, 0, -1, 0, 1);
        // Taken in the minute of the jolt, with tea and not more tired yet.
        NightSorters next = Trains.with(Trains.sorter(9, ALL));
        next.setStation(0, 20, 3);
        next.setStation(1, 24, 0);
        next.tea(0);
        next.post(1, 15);
        Trains.to(next, 26);
        sorterIs("taken ahead of the jolt", next, 0, 3, 0, 0, 6, 0);
        // Two letters, tired by 2; the third one is sorted at once, since the jolt tires behind it.
        NightSorters tired = Trains.with(Trains.sorter(1, ALL));
        tired.setStation(0, 20, 3);
        tired.setStation(1, 24, 0);
        Trains.post(tired, 0, 15, 14);
        tired.post(1, 13);
        Trains.to(tired, 26);
        sorterIs("sorted ahead of the jolt", tired, 0, 6, 0, -1, 0, 3);
    }

    private static void joltComesBehindTheStation() {
        check.sentence("5 minutes behind passing a station");
        NightSorters train = Trains.with(Trains.sorter(1, ALL));
        train.setStation(0, 20, 2);
        train.setStation(1, 25, 0);
        Trains.post(train, 0, 2, 3, 2, 15);
        Trains.to(train, 25);
        check.same("pass(1), the holes are emptied first", train.pass(1), 3);
        check.same("hole(15), the jolt spills what is left", train.hole(15), 0);
        check.same("letter(3, 0)", train.letter(3, 0), 1);
        check.same("count(8)", train.count(8), 0);
    }

    private static void joltsInMinutesOneBehindTheOther() {
        check.sentence("5 minutes behind passing a station");
        NightSorters train = Trains.with(Trains.sorter(1, 0));
        for (int station = 0; station < 8; station++) {
            train.setStation(station, 10 + station, station % 2 == 0 ? 3 : 0);
        }
        for (int station = 0; station < 8; station++) {
            Trains.to(train, 15 + station);
            train.tea(0);
            train.pass(1);
            int jolts = station % 2 == 0 ? 1 : 0;
            sorterIs("5 behind station " + station, train, 0, 3 * jolts, 1 - jolts, -1, 0, 0);
        }
    }

    // ---- 4.

    private static void minuteIsOneGreater() {
        check.sentence("The minute is 1 greater.");
        NightSorters train = new NightSorters();
        for (int minute = 1; minute <= 200; minute++) {
            train.pass(1);
            check.same("count(0)", train.count(0), minute);
        }
        train.pass(300);
        check.same("count(0)", train.count(0), 500);
    }
}
