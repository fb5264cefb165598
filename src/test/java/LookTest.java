/** Promises 7 to 11: letter, sorter, hole, station, count. */
public final class LookTest {
    private static final int[] FAR = {Integer.MIN_VALUE, -1, Integer.MAX_VALUE};

    private static final Check check = new Check("LookTest");

    public static void main(String[] args) {
        promise7LetterInEachPlace();
        promise8Sorter();
        promise9Hole();
        promise10Station();
        promise11Count();
        promise11NextStation();
        wrongInputs();
        looksChangeNothing();
        check.end();
    }

    /** Behind minute 41: a letter in each of the six places. */
    private static NightSorters sixPlaces() {
        NightSorters train = new NightSorters();
        train.hire(9, 1 << 15);
        train.hire(1, 1 << 14 | 1 << 2);
        train.post(0, 2);
        train.post(0, 14);
        train.post(0, 3);
        train.post(1, 15);
        train.post(0, 13);
        train.post(3, 12);
        train.pass(42);
        return train;
    }

    private static void letterIs(NightSorters train, int letter, int... due) {
        for (int what = 0; what < 5; what++) {
            check.same("letter(" + letter + ", " + what + ")", train.letter(letter, what), due[what]);
        }
    }

    private static void promise7LetterInEachPlace() {
        NightSorters train = sixPlaces();
        letterIs(train, 0, 4, 2, 0, -1, 40);
        letterIs(train, 1, 3, 14, 0, -1, -1);
        letterIs(train, 2, 5, 3, 0, -1, 40);
        letterIs(train, 3, 2, 15, 1, 0, -1);
        letterIs(train, 4, 1, 13, 0, -1, -1);
        letterIs(train, 5, 0, 12, 3, -1, -1);
    }

    private static void sorterIs(NightSorters train, int sorter, int... due) {
        for (int what = 0; what < 7; what++) {
            check.same("sorter(" + sorter + ", " + what + ")", train.sorter(sorter, what), due[what]);
        }
    }

    private static void promise8Sorter() {
        NightSorters train = sixPlaces();
        train.tea(1);
        sorterIs(train, 0, 9, 1 << 15, 0, 0, 3, 8, 0);
        sorterIs(train, 1, 1, 1 << 14 | 1 << 2, 0, 1, -1, 0, 2);
        train.pass(8);
        sorterIs(train, 0, 9, 1 << 15, 1, 0, -1, 0, 1);
    }

    private static void promise9Hole() {
        NightSorters train = sixPlaces();
        for (int town = 0; town < 16; town++) {
            check.same("hole(" + town + ")", train.hole(town), town == 14 ? 1 : 0);
        }
        train.pass(8);
        check.same("hole(15)", train.hole(15), 1);
        train.pass(111);
        check.same("hole(14) behind its station", train.hole(14), 0);
        check.same("hole(15) behind its station", train.hole(15), 0);
    }

    private static void promise10Station() {
        NightSorters train = sixPlaces();
        train.post(3, 0);
        train.post(0, 0);
        train.setStation(3, 85, 2);
        int[] inBags = {1, 0, 0, 2, 0, 0, 0, 0};
        for (int station = 0; station < 8; station++) {
            int minute = station == 3 ? 85 : 20 * station + 20;
            check.same("station(" + station + ", 0)", train.station(station, 0), minute);
            check.same("station(" + station + ", 1)", train.station(station, 1), station == 3 ? 2 : 0);
            check.same("station(" + station + ", 2)", train.station(station, 2), inBags[station]);
        }
        train.pass(44);
        check.same("station(3, 2) behind it", train.station(3, 2), 0);
        check.same("station(0, 2) behind it", train.station(0, 2), 1);
    }

    private static void promise11Count() {
        NightSorters train = sixPlaces();
        train.post(6, 15);
        int[] due = {42, 7, 2, 2, 1, 1, 1, 1, 1, 2};
        for (int what = 0; what < 10; what++) {
            check.same("count(" + what + ")", train.count(what), due[what]);
        }
    }

    private static void promise11NextStation() {
        NightSorters train = new NightSorters();
        train.pass(20);
        check.same("count(9) in 20", train.count(9), 0);
        train.pass(1);
        check.same("count(9) in 21", train.count(9), 1);
        train.pass(139);
        check.same("count(9) in 160", train.count(9), 7);
        train.pass(1);
        check.same("count(9) in 161", train.count(9), 8);
        check.same("count(0)", train.count(0), 161);
        train.pass(300);
        check.same("count(9) in 461", train.count(9), 8);
    }

    private static void wrongInputs() {
        NightSorters train = sixPlaces();
        for (int far : FAR) {
            check.indexRefused(train, "letter(" + far + ", 0)", () -> train.letter(far, 0));
            check.indexRefused(train, "letter(0, " + far + ")", () -> train.letter(0, far));
            check.indexRefused(train, "sorter(" + far + ", 0)", () -> train.sorter(far, 0));
            check.indexRefused(train, "sorter(0, " + far + ")", () -> train.sorter(0, far));
            check.indexRefused(train, "hole(" + far + ")", () -> train.hole(far));
            check.indexRefused(train, "station(" + far + ", 0)", () -> train.station(far, 0));
            check.indexRefused(train, "station(0, " + far + ")", () -> train.station(0, far));
            check.indexRefused(train, "count(" + far + ")", () -> train.count(far));
        }
        check.indexRefused(train, "letter(6, 0)", () -> train.letter(6, 0));
        check.indexRefused(train, "letter(60, 0)", () -> train.letter(60, 0));
        check.indexRefused(train, "letter(0, 5)", () -> train.letter(0, 5));
        check.indexRefused(train, "sorter(2, 0)", () -> train.sorter(2, 0));
        check.indexRefused(train, "sorter(4, 0)", () -> train.sorter(4, 0));
        check.indexRefused(train, "sorter(0, 7)", () -> train.sorter(0, 7));
        check.indexRefused(train, "hole(16)", () -> train.hole(16));
        check.indexRefused(train, "station(8, 0)", () -> train.station(8, 0));
        check.indexRefused(train, "station(0, 3)", () -> train.station(0, 3));
        check.indexRefused(train, "count(10)", () -> train.count(10));
    }

    private static void looksChangeNothing() {
        NightSorters train = sixPlaces();
        check.unchanged(train, "letter(3, 3)", () -> train.letter(3, 3));
        check.unchanged(train, "sorter(0, 5)", () -> train.sorter(0, 5));
        check.unchanged(train, "hole(14)", () -> train.hole(14));
        check.unchanged(train, "station(3, 2)", () -> train.station(3, 2));
        check.unchanged(train, "count(9)", () -> train.count(9));
        check.unchanged(train, "share()", () -> train.share());
        check.unchanged(train, "digest()", () -> train.digest());
    }
}
