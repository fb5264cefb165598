/** "Terms": each sentence that names an edge, but for what a minute does (MinuteEdgesTest), in the document's order. */
public final class TermsEdgesTest {
    private static final int ALL = Trains.ALL;
    private static final Class<?> INDEX = IndexOutOfBoundsException.class;
    private static final Class<?> ARGUMENT = IllegalArgumentException.class;

    private static final Check check = new Check("TermsEdgesTest");

    public static void main(String[] args) {
        anObjectIsUsedFor512Calls();
        timeIsToldFrom0();
        divisionIsCut();
        stationsAre0To7();
        stationsArePassedInTheMinutes1To8();
        stationsArePassedInTheMinutes992To999();
        stationsRiseAtFirst();
        stationsAreAMinuteApart();
        joltsAre0To3();
        joltsAre0AtFirst();
        townsAre0To15();
        townsAreServedByTheirStation();
        townsOfStation0AreNeverDelivered();
        holesHaveRoomFor8();
        lettersAreAtMost60();
        lettersAreNumberedInTheOrderOfPosting();
        lettersLieInTheBagAtFirst();
        lettersAreInSixPlaces();
        sortersAreAtMost4();
        pacesAre1To9();
        sortersAreTiredBy0AtFirst();
        sortersAreTiredByEachLetter();
        teaIsNoneAtFirst();
        setsAreToldByBits();
        setsMayBeEmpty();
        lettersNeedPaceAndTiredness();
        lettersNeed2LessWithTea();
        lettersNeedAtLeast1();
        check.end();
    }

    private static void anObjectIsUsedFor512Calls() {
        check.sentence("An object is used for at most 512 calls after it has been made");
        NightSorters train = new NightSorters();
        for (int call = 1; call < 512; call++) {
            check.same("pass(300), call " + call, train.pass(300), 0);
        }
        check.same("count(0), the 512th call", train.count(0), 511 * 300);
    }

    private static void timeIsToldFrom0() {
        check.sentence("Time is told in minutes, from 0.");
        NightSorters train = new NightSorters();
        check.same("count(0)", train.count(0), 0);
        train.setStation(0, 1, 0);
        train.post(0, 15);
        train.pass(1);
        check.same("count(0), behind the minute 0", train.count(0), 1);
        check.same("count(9), behind the minute 0", train.count(9), 0);
        check.same("count(4), behind the minute 0", train.count(4), 0);
        train.pass(1);
        check.same("count(4), behind the minute 1", train.count(4), 1);
    }

    private static void divisionIsCut() {
        check.sentence("All numbers are whole, and / is cut towards 0.");
        // 4 / 5, 5 / 5, 9 / 5 and 10 / 5.
        int[] tired = {4, 5, 9, 10};
        int[] more = {0, 1, 1, 2};
        for (int i = 0; i < 4; i++) {
            NightSorters train = Trains.with(Trains.sorter(2, ALL));
            Trains.leaveALongNight(train);
            Trains.postMany(train, 0, 15, 8);
            Trains.postMany(train, 0, 14, 3);
            while (train.sorter(0, 2) < tired[i] && train.count(0) < 100) {
                train.pass(1);
            }
            train.pass(1);
            check.same("minutes left of a sorter tired by " + tired[i], train.sorter(0, 5), 1 + more[i]);
        }
        int[] stations = {0, 0, 1, 1, 2, 2, 3, 3, 4, 4, 5, 5, 6, 6, 7, 7};
        for (int town = 0; town < 16; town++) {
            NightSorters train = new NightSorters();
            train.post(Math.max(0, stations[town] - 1), town);
            Trains.to(train, 200);
            check.same("the minute of town " + town, train.letter(0, 4), 20 * stations[town] + 20);
        }
    }

    private static void stationsAre0To7() {
        check.sentence("Stations. There are 8, 0 to 7");
        check.takes(0, 7, INDEX, NightSorters::new, "station(.., 0)", (train, s) -> train.station(s, 0));
        check.takes(0, 7, INDEX, NightSorters::new, "post(.., 0)", (train, s) -> train.post(s, 0));
        check.takes(0, 7, INDEX, NightSorters::new, "setStation(.., its minute, 0)",
            (train, s) -> train.setStation(s, s < 0 || s > 7 ? 170 : 20 * s + 20, 0));
        NightSorters train = new NightSorters();
        Trains.to(train, 300);
        check.same("count(9) behind the last station", train.count(9), 8);
    }

    private static void stationsArePassedInTheMinutes1To8() {
        check.sentence("the minute in which the train passes it, 1 to 999");
        NightSorters train = Trains.with(Trains.sorter(1, ALL));
        for (int station = 0; station < 8; station++) {
            train.setStation(station, station + 1, 0);
            check.same("station(" + station + ", 0)", train.station(station, 0), station + 1);
        }
        Trains.post(train, 0, 2, 15);
        check.same("pass(1)", train.pass(1), 0);
        check.same("count(3), ahead of the minute 1", train.count(3), 2);
        check.same("pass(1)", train.pass(1), 0);
        check.same("count(4), behind the minute 1", train.count(4), 2);
        check.same("pass(1)", train.pass(1), 1);
        check.same("letter(0, 4)", train.letter(0, 4), 2);
        check.same("pass(5)", train.pass(5), 0);
        check.same("pass(1)", train.pass(1), 1);
        check.same("letter(1, 4)", train.letter(1, 4), 8);
    }

    private static void stationsArePassedInTheMinutes992To999() {
        check.sentence("the minute in which the train passes it, 1 to 999");
        NightSorters train = Trains.with(Trains.sorter(1, ALL));
        for (int station = 7; station >= 0; station--) {
            train.setStation(station, 992 + station, station == 7 ? 1 : 0);
            check.same("station(" + station + ", 0)", train.station(station, 0), 992 + station);
        }
        train.tea(0);
        Trains.post(train, 0, 2, 15);
        Trains.to(train, 992);
        check.same("count(3), ahead of the minute 992", train.count(3), 2);
        check.same("pass(1)", train.pass(1), 0);
        check.same("count(4), behind the minute 992", train.count(4), 2);
        check.same("pass(1)", train.pass(1), 1);
        Trains.to(train, 999);
        check.same("count(9) in 999", train.count(9), 7);
        check.same("pass(1)", train.pass(1), 1);
        check.same("letter(1, 4)", train.letter(1, 4), 999);
        check.same("count(9) in 1000", train.count(9), 8);
        train.pass(4);
        check.same("sorter(0, 3) in 1004", train.sorter(0, 3), 1);
        train.pass(1);
        check.same("sorter(0, 3) in 1005", train.sorter(0, 3), 0);
    }

    private static void stationsRiseAtFirst() {
        check.sentence("each one greater than that of the station before (20 * its number + 20, at first)");
        NightSorters train = new NightSorters();
        int[] minutes = {20, 40, 60, 80, 100, 120, 140, 160};
        for (int station = 0; station < 8; station++) {
            check.same("station(" + station + ", 0)", train.station(station, 0), minutes[station]);
        }
    }

    private static void stationsAreAMinuteApart() {
        check.sentence("each one greater than that of the station before");
        for (int station = 1; station < 8; station++) {
            int changed = station;
            int before = 20 * station;
            NightSorters train = new NightSorters();
            check.stateRefused(train, "the minute of the station before " + changed,
                () -> train.setStation(changed, before, 0));
            check.same("one more", train.setStation(changed, before + 1, 0), 10 * (before + 20));
        }
        for (int station = 0; station < 7; station++) {
            int changed = station;
            int next = 20 * station + 40;
            NightSorters train = new NightSorters();
            check.stateRefused(train, "the minute of the station behind " + changed,
                () -> train.setStation(changed, next, 0));
            check.same("one less", train.setStation(changed, next - 1, 0), 10 * (next - 20));
        }
    }

    private static void joltsAre0To3() {
        check.sentence("and a jolt, 0 to 3");
        for (int station = 0; station < 8; station++) {
            int its = station;
            check.takes(0, 3, ARGUMENT, NightSorters::new, "jolt of station " + its,
                (train, jolt) -> train.setStation(its, 20 * its + 20, jolt));
        }
        NightSorters train = new NightSorters();
        for (int jolt = 3; jolt >= 0; jolt--) {
            train.setStation(4, 100, jolt);
            check.same("station(4, 1)", train.station(4, 1), jolt);
        }
    }

    private static void joltsAre0AtFirst() {
        check.sentence("and a jolt, 0 to 3 (0, at first)");
        NightSorters train = Trains.with(Trains.sorter(1, 0));
        train.tea(0);
        for (int station = 0; station < 8; station++) {
            check.same("station(" + station + ", 1)", train.station(station, 1), 0);
        }
        train.pass(300);
        check.same("sorter(0, 3) behind the night", train.sorter(0, 3), 1);
    }

    private static void townsAre0To15() {
        check.sentence("Each of 16 towns, 0 to 15");
        check.takes(0, 15, INDEX, NightSorters::new, "hole", (train, town) -> train.hole(town));
        check.takes(0, 15, INDEX, NightSorters::new, "post(0, ..)", (train, town) -> train.post(0, town));
        check.takes(0, ALL, ARGUMENT, NightSorters::new, "hire(1, ..)", (train, towns) -> train.hire(1, towns));
    }

    private static void townsAreServedByTheirStation() {
        check.sentence("is served by the station with the number town / 2");
        int[] minutes = {40, 40, 60, 60, 80, 80, 100, 100, 120, 120, 140, 140, 160, 160};
        for (int town = 2; town < 16; town++) {
            NightSorters train = Trains.with(Trains.sorter(1, ALL));
            train.post(0, town);
            Trains.to(train, minutes[town - 2]);
            check.same("hole(" + town + ") ahead of its station", train.hole(town), 1);
            check.same("pass(1)", train.pass(1), 1);
            check.same("letter(0, 4) to town " + town, train.letter(0, 4), minutes[town - 2]);
            check.same("hole(" + town + ") behind its station", train.hole(town), 0);
        }
    }

    /** The first bag brings letters for the towns 0 and 1 only when their station is passed. */
    private static void townsOfStation0AreNeverDelivered() {
        check.sentence("is served by the station with the number town / 2");
        for (int town = 0; town < 3; town++) {
            NightSorters train = Trains.with(Trains.sorter(1, ALL));
            train.post(0, town);
            Trains.to(train, 20);
            check.same("letter(0, 0) ahead of the station", train.letter(0, 0), 0);
            train.pass(1);
            check.same("letter(0, 0), town " + town, train.letter(0, 0), town < 2 ? 5 : 1);
            check.same("letter(0, 4), town " + town, train.letter(0, 4), town < 2 ? 20 : -1);
        }
    }

    private static void holesHaveRoomFor8() {
        check.sentence("and has a pigeonhole with room for 8 letters");
        for (int town = 2; town < 16; town++) {
            NightSorters train = Trains.with(Trains.sorter(1, ALL));
            Trains.leaveALongNight(train);
            train.tea(0);
            Trains.postMany(train, 0, town, 9);
            Trains.to(train, 9);
            check.same("hole(" + town + ") behind 7", train.hole(town), 7);
            train.pass(1);
            check.same("hole(" + town + ") behind 8", train.hole(town), 8);
            check.same("sorter(0, 6) behind 8", train.sorter(0, 6), 8);
            train.pass(1);
            check.same("hole(" + town + ") behind 9", train.hole(town), 8);
            check.same("sorter(0, 6) behind 9", train.sorter(0, 6), 8);
            check.same("letter(8, 0)", train.letter(8, 0), 1);
        }
    }

    private static void lettersAreAtMost60() {
        check.sentence("Letters. There are at most 60");
        NightSorters train = new NightSorters();
        Trains.postMany(train, 7, 15, 59);
        check.same("post(7, 15), the 60th", train.post(7, 15), 59);
        check.stateRefused(train, "post(7, 15), the 61st", () -> train.post(7, 15));
        check.same("count(1)", train.count(1), 60);
        Trains.to(train, 200);
        check.same("count(8)", train.count(8), 60);
        check.stateRefused(train, "post(7, 15), with all of them late", () -> train.post(7, 15));
    }

    private static void lettersAreNumberedInTheOrderOfPosting() {
        check.sentence("numbered from 0 in the order of their posting");
        NightSorters train = new NightSorters();
        for (int letter = 0; letter < 60; letter++) {
            check.same("post", train.post(7 - letter % 8, 15 - letter % 16), letter);
            train.pass(1);
        }
        for (int letter = 0; letter < 60; letter++) {
            check.same("letter(" + letter + ", 1)", train.letter(letter, 1), 15 - letter % 16);
            check.same("letter(" + letter + ", 2)", train.letter(letter, 2), 7 - letter % 8);
        }
    }

    private static void lettersLieInTheBagAtFirst() {
        check.sentence("it lies there in the bag (at first)");
        for (int station = 0; station < 8; station++) {
            NightSorters train = new NightSorters();
            train.post(station, 15);
            check.same("letter(0, 0)", train.letter(0, 0), 0);
            for (int other = 0; other < 8; other++) {
                check.same("station(" + other + ", 2)", train.station(other, 2), other == station ? 1 : 0);
            }
        }
    }

    private static void lettersAreInSixPlaces() {
        check.sentence("lies on the table, is in the hands of a sorter, in its hole, delivered, or late");
        NightSorters train = Trains.with(Trains.sorter(2, ALL));
        Trains.post(train, 0, 2, 1);
        int[] minutes = {20, 21, 22, 40, 41};
        int[] places = {0, 1, 2, 3, 4};
        for (int i = 0; i < 5; i++) {
            Trains.to(train, minutes[i]);
            check.same("letter(0, 0) in " + minutes[i], train.letter(0, 0), places[i]);
            check.same("letter(1, 0) in " + minutes[i], train.letter(1, 0), i == 0 ? 0 : 5);
        }
    }

    private static void sortersAreAtMost4() {
        check.sentence("Sorters. There are at most 4, numbered likewise");
        NightSorters train = new NightSorters();
        for (int sorter = 0; sorter < 4; sorter++) {
            check.same("hire", train.hire(9 - sorter, sorter), sorter);
            train.pass(1);
        }
        check.stateRefused(train, "hire(1, 1), the 5th", () -> train.hire(1, 1));
        check.same("count(2)", train.count(2), 4);
        for (int sorter = 0; sorter < 4; sorter++) {
            check.same("sorter(" + sorter + ", 0)", train.sorter(sorter, 0), 9 - sorter);
            check.same("sorter(" + sorter + ", 1)", train.sorter(sorter, 1), sorter);
        }
    }

    private static void pacesAre1To9() {
        check.sentence("each has a pace, 1 to 9");
        check.takes(1, 9, ARGUMENT, NightSorters::new, "hire(.., 1)", (train, pace) -> train.hire(pace, 1));
        for (int pace = 1; pace <= 9; pace++) {
            check.same("sorter(0, 0)", Trains.with(Trains.sorter(pace, 1)).sorter(0, 0), pace);
        }
    }

    private static void sortersAreTiredBy0AtFirst() {
        check.sentence("is tired by 0 or more");
        NightSorters train = Trains.with(Trains.sorter(1, ALL), Trains.sorter(9, 0));
        check.same("sorter(0, 2)", train.sorter(0, 2), 0);
        check.same("sorter(1, 2)", train.sorter(1, 2), 0);
        train.pass(300);
        check.same("sorter(0, 2), behind a night without letters", train.sorter(0, 2), 0);
    }

    /** Nothing keeps a sorter from being more tired than there are letters. */
    private static void sortersAreTiredByEachLetter() {
        check.sentence("is tired by 0 or more");
        NightSorters train = Trains.with(Trains.sorter(1, 1 << 15));
        Trains.leaveALongNight(train);
        Trains.postMany(train, 0, 15, 9);
        Trains.to(train, 992);
        int turns = 0;
        int minute = 2;
        // The ninth letter goes from the table to the full hole and back, all night.
        while (minute + 1 + turns / 5 <= 992) {
            minute += 1 + turns / 5;
            turns++;
        }
        check.same("sorter(0, 2)", train.sorter(0, 2), turns);
        check.same("more than 60", turns > 60 ? 1 : 0, 1);
        check.same("sorter(0, 6)", train.sorter(0, 6), 8);
    }

    private static void teaIsNoneAtFirst() {
        check.sentence("has tea or none (at first)");
        NightSorters train = Trains.with(Trains.sorter(1, 1), Trains.sorter(1, 1));
        check.same("sorter(0, 3)", train.sorter(0, 3), 0);
        check.same("sorter(1, 3)", train.sorter(1, 3), 0);
        train.tea(1);
        check.same("sorter(0, 3), the other has tea", train.sorter(0, 3), 0);
        check.same("sorter(1, 3), with tea", train.sorter(1, 3), 1);
    }

    private static void setsAreToldByBits() {
        check.sentence("told as a set: the bit with the number of each town is set");
        for (int town = 2; town < 16; town++) {
            NightSorters only = trainWithALetterForEachTown(1 << town);
            NightSorters allBut = trainWithALetterForEachTown(ALL ^ 1 << town);
            for (int other = 2; other < 16; other++) {
                String told = "letter(" + (other - 2) + ", 0), town " + town;
                check.same(told + " alone", only.letter(other - 2, 0), other == town ? 3 : 1);
                check.same(told + " alone not", allBut.letter(other - 2, 0), other == town ? 1 : 3);
            }
        }
    }

    private static void setsMayBeEmpty() {
        check.sentence("takes letters for some of the towns, told as a set");
        NightSorters none = trainWithALetterForEachTown(0);
        check.same("count(4), the empty set", none.count(4), 14);
        NightSorters neverThere = trainWithALetterForEachTown(3);
        check.same("count(4), the towns of station 0", neverThere.count(4), 14);
        NightSorters all = trainWithALetterForEachTown(ALL);
        check.same("count(6), the full set", all.count(6), 14);
    }

    /** One letter for each of the towns 2 to 15, and a sorter who had the time to sort all that are for the set. */
    private static NightSorters trainWithALetterForEachTown(int towns) {
        NightSorters train = Trains.with(Trains.sorter(1, towns));
        Trains.leaveALongNight(train);
        train.tea(0);
        for (int town = 2; town < 16; town++) {
            train.post(0, town);
        }
        Trains.to(train, 30);
        return train;
    }

    private static void lettersNeedPaceAndTiredness() {
        check.sentence("For a letter a sorter needs pace + tired / 5 minutes");
        for (int pace = 1; pace <= 9; pace++) {
            sortsEachLetterInItsMinutes(pace, 0);
        }
    }

    private static void lettersNeed2LessWithTea() {
        check.sentence("with tea 2 less");
        for (int pace = 3; pace <= 9; pace++) {
            sortsEachLetterInItsMinutes(pace, 2);
        }
    }

    private static void lettersNeedAtLeast1() {
        check.sentence("with tea 2 less, at least 1");
        sortsEachLetterInItsMinutes(1, 2);
        sortsEachLetterInItsMinutes(2, 2);
    }

    private static void sortsEachLetterInItsMinutes(int pace, int less) {
        NightSorters train = Trains.with(Trains.sorter(pace, ALL));
        Trains.leaveALongNight(train);
        for (int letter = 0; letter < 60; letter++) {
            train.post(0, 15 - letter / 8);
        }
        if (less > 0) {
            train.tea(0);
        }
        Trains.to(train, 2);
        for (int letter = 0; letter < 60; letter++) {
            int needs = Math.max(1, pace + letter / 5 - less);
            String told = "pace " + pace + ", less " + less + ", tired by " + letter;
            train.pass(1);
            check.same("sorter(0, 5), " + told, train.sorter(0, 5), needs - 1);
            check.same("sorter(0, 4), " + told, train.sorter(0, 4), needs == 1 ? -1 : letter);
            if (needs > 1) {
                train.pass(needs - 1);
            }
            check.same("sorter(0, 6), " + told, train.sorter(0, 6), letter + 1);
        }
    }
}
