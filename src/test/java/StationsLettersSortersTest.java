/** Promises 1 to 6: a new object, setStation, post, hire, assign, tea. */
public final class StationsLettersSortersTest {
    private static final int[] WRONG_STATIONS = {-1, 8, Integer.MIN_VALUE, Integer.MAX_VALUE};
    private static final int[] WRONG_TOWNS = {-1, 16, Integer.MIN_VALUE, Integer.MAX_VALUE};
    private static final int[] WRONG_SETS = {-1, 65536, Integer.MIN_VALUE, Integer.MAX_VALUE};

    private static final Check check = new Check("StationsLettersSortersTest");

    public static void main(String[] args) {
        promise1NewObject();
        promise2SetStationAnswersAndKeeps();
        promise2SetStationWrongArguments();
        promise2SetStationMinutesMustRise();
        promise2SetStationPassedStations();
        promise3Post();
        promise3PostAtMost60();
        promise4Hire();
        promise4HireAtMost4();
        promise5Assign();
        promise5AssignLeavesTheLetterInHands();
        promise6Tea();
        check.end();
    }

    private static void promise1NewObject() {
        NightSorters train = new NightSorters();
        int[] counts = {0, 0, 0, 0, 0, 0, 0, 0, 0, 0};
        for (int what = 0; what < 10; what++) {
            check.same("count(" + what + ")", train.count(what), counts[what]);
        }
        int[] minutes = {20, 40, 60, 80, 100, 120, 140, 160};
        for (int station = 0; station < 8; station++) {
            check.same("station(" + station + ", 0)", train.station(station, 0), minutes[station]);
            check.same("station(" + station + ", 1)", train.station(station, 1), 0);
            check.same("station(" + station + ", 2)", train.station(station, 2), 0);
        }
        for (int town = 0; town < 16; town++) {
            check.same("hole(" + town + ")", train.hole(town), 0);
        }
        check.indexRefused(train, "letter(0, 0)", () -> train.letter(0, 0));
        check.indexRefused(train, "sorter(0, 0)", () -> train.sorter(0, 0));
        NightSorters other = new NightSorters();
        other.post(0, 5);
        other.hire(1, 1);
        other.setStation(0, 7, 1);
        other.pass(10);
        check.same("count(1) of another object", train.count(1), 0);
        check.same("station(0, 0) of another object", train.station(0, 0), 20);
    }

    private static void promise2SetStationAnswersAndKeeps() {
        NightSorters train = new NightSorters();
        check.same("setStation(3, 81, 2)", train.setStation(3, 81, 2), 800);
        check.same("setStation(3, 99, 3)", train.setStation(3, 99, 3), 812);
        check.same("setStation(3, 61, 0)", train.setStation(3, 61, 0), 993);
        check.same("station(3, 0)", train.station(3, 0), 61);
        check.same("station(3, 1)", train.station(3, 1), 0);
        check.same("setStation(0, 1, 1)", train.setStation(0, 1, 1), 200);
        check.same("setStation(7, 999, 3)", train.setStation(7, 999, 3), 1600);
        check.same("station(7, 0)", train.station(7, 0), 999);
        check.same("station(7, 1)", train.station(7, 1), 3);
        check.same("station(6, 0)", train.station(6, 0), 140);
    }

    private static void promise2SetStationWrongArguments() {
        NightSorters train = new NightSorters();
        for (int station : WRONG_STATIONS) {
            check.indexRefused(train, "setStation(" + station + ", ..)", () -> train.setStation(station, 20, 0));
            check.indexRefused(train, "setStation(" + station + ", wrong)", () -> train.setStation(station, 0, 4));
        }
        for (int minute : new int[] {0, -1, 1000, Integer.MIN_VALUE, Integer.MAX_VALUE}) {
            check.argumentRefused(train, "setStation(0, " + minute + ", 0)", () -> train.setStation(0, minute, 0));
            check.argumentRefused(train, "setStation(7, " + minute + ", 0)", () -> train.setStation(7, minute, 0));
        }
        for (int jolt : new int[] {-1, 4, Integer.MIN_VALUE, Integer.MAX_VALUE}) {
            check.argumentRefused(train, "setStation(0, 20, " + jolt + ")", () -> train.setStation(0, 20, jolt));
            check.argumentRefused(train, "setStation(0, 900, " + jolt + ")", () -> train.setStation(0, 900, jolt));
        }
    }

    private static void promise2SetStationMinutesMustRise() {
        NightSorters train = new NightSorters();
        check.stateRefused(train, "setStation(0, 40, 0)", () -> train.setStation(0, 40, 0));
        check.stateRefused(train, "setStation(0, 41, 0)", () -> train.setStation(0, 41, 0));
        check.stateRefused(train, "setStation(4, 80, 0)", () -> train.setStation(4, 80, 0));
        check.stateRefused(train, "setStation(4, 120, 0)", () -> train.setStation(4, 120, 0));
        check.stateRefused(train, "setStation(7, 140, 0)", () -> train.setStation(7, 140, 0));
        check.stateRefused(train, "setStation(7, 1, 0)", () -> train.setStation(7, 1, 0));
        check.same("setStation(0, 39, 0)", train.setStation(0, 39, 0), 200);
        check.same("setStation(4, 119, 0)", train.setStation(4, 119, 0), 1000);
        check.same("setStation(4, 81, 0)", train.setStation(4, 81, 0), 1190);
        check.same("setStation(7, 141, 0)", train.setStation(7, 141, 0), 1600);
    }

    private static void promise2SetStationPassedStations() {
        NightSorters train = new NightSorters();
        train.pass(20);
        check.stateRefused(train, "setStation(0, 19, 0) in 20", () -> train.setStation(0, 19, 0));
        check.same("setStation(0, 20, 1) in 20", train.setStation(0, 20, 1), 200);
        check.same("setStation(0, 22, 2) in 20", train.setStation(0, 22, 2), 201);
        check.same("setStation(0, 20, 0) in 20", train.setStation(0, 20, 0), 222);
        train.pass(1);
        check.stateRefused(train, "setStation(0, 20, 3) in 21", () -> train.setStation(0, 20, 3));
        check.stateRefused(train, "setStation(0, 30, 0) in 21", () -> train.setStation(0, 30, 0));
        check.same("setStation(1, 21, 0) in 21", train.setStation(1, 21, 0), 400);
        check.same("setStation(1, 25, 0) in 21", train.setStation(1, 25, 0), 210);
        train.pass(1);
        check.stateRefused(train, "setStation(1, 21, 0) in 22", () -> train.setStation(1, 21, 0));
        check.argumentRefused(train, "setStation(0, 0, 0) in 22", () -> train.setStation(0, 0, 0));
    }

    private static void promise3Post() {
        NightSorters train = new NightSorters();
        check.same("post(0, 15)", train.post(0, 15), 0);
        check.same("post(7, 0)", train.post(7, 0), 1);
        check.same("post(7, 15)", train.post(7, 15), 2);
        int[][] due = {{0, 15, 0, -1, -1}, {0, 0, 7, -1, -1}, {0, 15, 7, -1, -1}};
        for (int letter = 0; letter < 3; letter++) {
            for (int what = 0; what < 5; what++) {
                check.same("letter(" + letter + ", " + what + ")", train.letter(letter, what), due[letter][what]);
            }
        }
        check.same("station(0, 2)", train.station(0, 2), 1);
        check.same("station(7, 2)", train.station(7, 2), 2);
        for (int station : WRONG_STATIONS) {
            check.indexRefused(train, "post(" + station + ", 0)", () -> train.post(station, 0));
        }
        for (int town : WRONG_TOWNS) {
            check.indexRefused(train, "post(0, " + town + ")", () -> train.post(0, town));
        }
        train.pass(30);
        check.same("post(0, 9) behind the station", train.post(0, 9), 3);
        check.same("letter(3, 0) lies in its bag", train.letter(3, 0), 0);
    }

    private static void promise3PostAtMost60() {
        NightSorters train = new NightSorters();
        for (int letter = 0; letter < 60; letter++) {
            check.same("post", train.post(letter % 8, letter % 16), letter);
        }
        check.stateRefused(train, "post(0, 0), the 61st", () -> train.post(0, 0));
        check.indexRefused(train, "post(8, 0), the 61st", () -> train.post(8, 0));
        check.indexRefused(train, "post(0, 16), the 61st", () -> train.post(0, 16));
        check.same("count(1)", train.count(1), 60);
        check.same("letter(59, 1)", train.letter(59, 1), 11);
    }

    private static void promise4Hire() {
        NightSorters train = new NightSorters();
        check.same("hire(1, 0)", train.hire(1, 0), 0);
        check.same("hire(9, 65535)", train.hire(9, 65535), 1);
        int[][] due = {{1, 0, 0, 0, -1, 0, 0}, {9, 65535, 0, 0, -1, 0, 0}};
        for (int sorter = 0; sorter < 2; sorter++) {
            for (int what = 0; what < 7; what++) {
                check.same("sorter(" + sorter + ", " + what + ")", train.sorter(sorter, what), due[sorter][what]);
            }
        }
        for (int pace : new int[] {0, 10, -1, Integer.MIN_VALUE, Integer.MAX_VALUE}) {
            check.argumentRefused(train, "hire(" + pace + ", 1)", () -> train.hire(pace, 1));
        }
        for (int towns : WRONG_SETS) {
            check.argumentRefused(train, "hire(1, " + towns + ")", () -> train.hire(1, towns));
        }
    }

    private static void promise4HireAtMost4() {
        NightSorters train = new NightSorters();
        for (int sorter = 0; sorter < 4; sorter++) {
            check.same("hire", train.hire(sorter + 1, sorter), sorter);
        }
        check.stateRefused(train, "hire(1, 1), the 5th", () -> train.hire(1, 1));
        check.argumentRefused(train, "hire(0, 1), the 5th", () -> train.hire(0, 1));
        check.argumentRefused(train, "hire(1, 65536), the 5th", () -> train.hire(1, 65536));
        check.same("count(2)", train.count(2), 4);
    }

    private static void promise5Assign() {
        NightSorters train = new NightSorters();
        check.indexRefused(train, "assign(0, 1) of none", () -> train.assign(0, 1));
        train.hire(1, 5);
        train.hire(2, 6);
        check.same("assign(1, 65535)", train.assign(1, 65535), 6);
        check.same("assign(1, 0)", train.assign(1, 0), 65535);
        check.same("sorter(1, 1)", train.sorter(1, 1), 0);
        check.same("sorter(0, 1)", train.sorter(0, 1), 5);
        for (int sorter : new int[] {-1, 2, 4, Integer.MIN_VALUE, Integer.MAX_VALUE}) {
            check.indexRefused(train, "assign(" + sorter + ", 1)", () -> train.assign(sorter, 1));
            check.indexRefused(train, "assign(" + sorter + ", -1)", () -> train.assign(sorter, -1));
        }
        for (int towns : WRONG_SETS) {
            check.argumentRefused(train, "assign(0, " + towns + ")", () -> train.assign(0, towns));
        }
    }

    private static void promise5AssignLeavesTheLetterInHands() {
        NightSorters train = new NightSorters();
        train.hire(5, 1 << 4);
        train.post(0, 4);
        train.post(0, 4);
        train.post(0, 6);
        train.pass(22);
        check.same("assign(0, 64)", train.assign(0, 64), 16);
        check.same("sorter(0, 4)", train.sorter(0, 4), 0);
        train.pass(5);
        check.same("letter(0, 0)", train.letter(0, 0), 3);
        check.same("sorter(0, 4), by the new set", train.sorter(0, 4), 2);
    }

    private static void promise6Tea() {
        NightSorters train = new NightSorters();
        check.indexRefused(train, "tea(0) of none", () -> train.tea(0));
        train.hire(1, 65535);
        train.hire(1, 0);
        check.same("tea(1)", train.tea(1), 0);
        check.same("sorter(1, 3)", train.sorter(1, 3), 1);
        check.same("sorter(0, 3)", train.sorter(0, 3), 0);
        for (int letter = 0; letter < 7; letter++) {
            train.post(0, 15);
        }
        train.pass(30);
        check.same("tea(0)", train.tea(0), 7);
        check.same("sorter(0, 2)", train.sorter(0, 2), 0);
        check.same("sorter(0, 3)", train.sorter(0, 3), 1);
        check.same("tea(0) again", train.tea(0), 0);
        check.same("sorter(0, 3)", train.sorter(0, 3), 1);
        train.pass(130);
        check.same("sorter(0, 3), never spilled", train.sorter(0, 3), 1);
        for (int sorter : new int[] {-1, 2, 4, Integer.MIN_VALUE, Integer.MAX_VALUE}) {
            check.indexRefused(train, "tea(" + sorter + ")", () -> train.tea(sorter));
        }
    }
}
